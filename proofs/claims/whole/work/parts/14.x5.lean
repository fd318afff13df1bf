def w_jf (f : Nat → Int32) (a b : Nat) : Nat → Nat := w_cnt (fun j => decide (f (3 * a + j) < f (3 * b + j)))
def w_allB (p : Nat → Bool) : Nat → Bool
  | 0 => true
  | k + 1 => w_allB p k && p k
theorem w_allB_t {p : Nat → Bool} {k : Nat} : w_allB p k = true ↔ ∀ j, j < k → p j = true := by
  induction k with
  | zero => exact ⟨fun _ j hj => absurd hj (Nat.not_lt_zero _), fun _ => rfl⟩
  | succ k ih =>
    unfold w_allB
    rw [Bool.and_eq_true, ih]
    constructor
    · intro h j hj
      by_cases e : j = k
      · rw [e]; exact h.2
      · exact h.1 j (by omega)
    · intro h
      exact ⟨fun j hj => h j (by omega), h k (by omega)⟩
def w_bts (pl jd : Nat → Int32) (x : Nat) : Bool := w_allB (fun o => decide (o = x) || (!(decide (0 < pl o)) || decide (2 ≤ w_jf jd x o 3))) 10
def w_find (p : Nat → Bool) : Nat → Nat → Int32
  | 0, _ => -2
  | k + 1, i => if p i then nI i else w_find p k (i + 1)
def w_tks (hit : Nat → Bool) (stp : Nat → wB → wB) : Nat → wB → wB
  | 0, t => t
  | i + 1, t => w_tks hit stp i (if hit i then stp i t else t)
def w_c0 : wB := (fun j => if j < 60 then -1 else 0, fun _ => 0, fun _ => 0)
def w_rb (k g sl way num : Int32) (E M A B Y : Nat → Int32) (N : Nat) : wB :=
  if k = 2 then w_join (w_tks (fun i => decide (E i = num)) (fun i t => w_take k g sl way (M i).toNatClampNeg (A i) (B i) (Y i) t) N w_c0) 10
  else w_tks (fun i => decide (E i = num)) (fun i t => w_take k g sl way (M i).toNatClampNeg (A i) (B i) (Y i) t) N w_c0
def w_TT (μ : wM) (q N : Nat) : wB := w_rb (μ q 1) (μ q 7) (μ q 8) (μ q 9) (μ q 0) (μ 14) (μ 15) (μ 16) (μ 17) (μ 18) N
def w_pl (μ : wM) (q N m : Nat) : Int32 := w_plc (μ q 1) (μ q 6) (w_TT μ q N).1 (w_TT μ q N).2.1 m
def w_aft (μ : wM) (q N : Nat) : wM := w_row (w_Tb μ (w_TT μ q N)) 19 (fun j => if j < 10 then w_pl μ q N j else μ 19 j)
/-- behind the rows' ends -/
def w_Zt (t : wB) : Prop := (∀ j, 60 ≤ j → t.1 j = 0) ∧ (∀ j, 10 ≤ j → t.2.1 j = 0) ∧ (∀ j, 30 ≤ j → t.2.2 j = 0)
def w_Z (μ : wM) : Prop := w_Zt (μ 20, μ 21, μ 22)
def w_LV (μ : wM) (q : Nat) : Prop := ∀ i, i < (μ 2 5).toNatClampNeg → μ 14 i = μ q 0 → vp_in (μ 15 i) 10 ∧ (μ q 1 = 2 → vp_in (μ 16 i) 3)
def w_sc (μ μ' : wM) : Prop := ∀ a, (a < 19 ∨ 23 < a) → μ' a = μ a
theorem w_sc.TT {μ μ' : wM} (h : w_sc μ μ') {q : Nat} (hq : 26 < q) (N : Nat) : w_TT μ' q N = w_TT μ q N := by
  unfold w_TT
  rw [h q (Or.inr (by omega)), h 14 (Or.inl (by decide)), h 15 (Or.inl (by decide)), h 16 (Or.inl (by decide)), h 17 (Or.inl (by decide)), h 18 (Or.inl (by decide))]
theorem w_sc.pl {μ μ' : wM} (h : w_sc μ μ') {q : Nat} (hq : 26 < q) (N m : Nat) : w_pl μ' q N m = w_pl μ q N m := by
  unfold w_pl
  rw [h.TT hq, h q (Or.inr (by omega))]
theorem w_sc.trans {μ μ' μ'' : wM} (h : w_sc μ μ') (h2 : w_sc μ' μ'') : w_sc μ μ'' := fun a ha => (h2 a ha).trans (h a ha)
theorem w_sc.refl (μ : wM) : w_sc μ μ := fun _ _ => rfl
theorem w_aft_sc (μ : wM) (q N : Nat) : w_sc μ (w_aft μ q N) := by
  intro a ha
  unfold w_aft
  rw [w_row_ne _ _ (by omega), w_Tb_ne _ _ (by omega) (by omega) (by omega)]
theorem w_sc.LV {μ μ' : wM} (h : w_sc μ μ') {q : Nat} (hq : 26 < q) (hv : w_LV μ q) : w_LV μ' q := by
  unfold w_LV
  rw [h q (Or.inr (by omega)), h 14 (Or.inl (by decide)), h 15 (Or.inl (by decide)), h 16 (Or.inl (by decide)), h 2 (Or.inl (by decide))]
  exact hv
theorem upd_out {f : Nat → Int32} {k : Nat} {x : Int32} {j : Nat} (h : j ≠ k) : upd f k x j = f j := by simp [upd, h]
theorem upd_in {f : Nat → Int32} {k : Nat} {x : Int32} : upd f k x k = x := by simp [upd]
theorem w_ins_out {v : Int32} {off : Nat} : ∀ (c : Nat) (f : Nat → Int32) (j : Nat), (j < off ∨ off + c < j) → w_ins f off v c j = f j := by
  intro c
  induction c with
  | zero => intro f j h; rw [w_ins, upd_out (by omega)]
  | succ c ih =>
    intro f j h
    rw [w_ins]
    split
    · rw [ih _ _ (by omega), upd_out (by omega)]
    · rw [upd_out (by omega)]
/-- what stays so while entries are taken: zeros behind the ends, tries counted to six -/
def w_Zc (k : Int32) (t : wB) : Prop := w_Zt t ∧ (k = 0 → ∀ m, vp_in (t.2.1 m) 7)
theorem w_take_Z {k g sl way : Int32} {m : Nat} {a b y : Int32} {t : wB} (hm : m < 10) (ha : k = 2 → a.toNatClampNeg < 3) (h : w_Zc k t) : w_Zc k (w_take k g sl way m a b y t) := by
  unfold w_take
  by_cases k2 : k = 2
  · rw [if_pos k2]
    refine ⟨⟨h.1.1, h.1.2.1, fun j hj => ?_⟩, h.2⟩
    dsimp only
    have := ha k2
    split
    · rw [upd_out (by omega)]; exact h.1.2.2 j hj
    · exact h.1.2.2 j hj
  · rw [if_neg k2]
    by_cases k0 : k = 0
    · rw [if_pos k0]
      split
      · exact h
      · next hc =>
        obtain ⟨C, hC, hCn, hCc⟩ := vp_in_le (h.2 k0 m) (by decide)
        have hC6 : C < 6 := by
          rcases Nat.lt_or_ge C 6 with z | z
          · exact z
          · rw [hCn] at hc; exact absurd (nI_le (a := 6) z (by omega)) hc
        refine ⟨⟨fun j hj => ?_, fun j hj => ?_, h.1.2.2⟩, fun _ j => ?_⟩
        · dsimp only
          rw [hCc, w_ins_out C _ j (Or.inr (by omega))]
          exact h.1.1 j hj
        · dsimp only
          rw [upd_out (by omega)]
          exact h.1.2.1 j hj
        · dsimp only
          by_cases e : j = m
          · rw [e, upd_in, hCn, nI_1]
            exact vp_in_nI (by omega) (by omega)
          · rw [upd_out e]
            exact h.2 k0 j
    · rw [if_neg k0]
      by_cases k1 : k = 1
      · rw [if_pos k1]
        split
        · refine ⟨⟨fun j hj => ?_, fun j hj => ?_, h.1.2.2⟩, fun z => absurd z k0⟩
          · dsimp only
            rw [upd_out (by omega)]
            exact h.1.1 j hj
          · dsimp only
            rw [upd_out (by omega)]
            exact h.1.2.1 j hj
        · exact h
      · rw [if_neg k1]
        exact h
theorem w_join_Z {t : wB} (h : w_Zt t) : ∀ m, m ≤ 10 → w_Zt (w_join t m) := by
  intro m
  induction m with
  | zero => intro _; exact h
  | succ m ih =>
    intro hm
    have := ih (by omega)
    unfold w_join
    dsimp only
    split
    · refine ⟨fun j hj => ?_, fun j hj => ?_, this.2.2⟩
      · dsimp only
        rw [upd_out (by omega)]
        exact this.1 j hj
      · dsimp only
        rw [upd_out (by omega)]
        exact this.2.1 j hj
    · exact this
/-! X0_read -/
def pX0_read (q : Nat) (n : Int32) (μ : wM) : Prop := q < 43 ∧ shX q = .inl 1 ∧ 26 < q ∧ vp_in (μ 2 5) 161 ∧ 0 ≤ n ∧ n ≤ μ 2 5 ∧ w_LV μ q ∧ w_Z μ
def qX0_read (q : Nat) (n : Int32) (μ : wM) (r : Int32) (μ' : wM) : Prop := μ' = w_aft μ q n.toNatClampNeg ∧ w_Z μ'
def sX0_read : wS := (false, true, 4, fun as μ => ∃ q, ∃ n, as = [.ref 3, .ref 2, .ref q, .int n] ∧ pX0_read q n μ, fun as μ r μ' => match as with
  | [.ref _, .ref _, .ref q, .int n] => qX0_read q n μ r μ'
  | _ => False)
def gX0_read : Nat → Option wS := fun k => match k with
  | 27 => some sJ7_fill_53178
  | 39 => some sJ9_min_7cf53
  | 53 => some sX0_take
  | 60 => some sX0_joinJudges
  | 63 => some sX0_rank
  | _ => none
def uX0_read : Nat → Option (List Nat) := fun j => match j with | 19 => some [] | _ => none
set_option maxHeartbeats 4000000 in
set_option maxRecDepth 100000 in
theorem vcX0_read_0 (K : wK) (R : Int32 → wM → Prop) (q : Nat) (n : Int32) (μ : wM) (h : pJ7_fill_53178 20 (-1) μ ∧ (∀ (r1 : Int32) (m2 : wM), qJ7_fill_53178 20 (-1) μ r1 m2 →
    pJ7_fill_53178 21 0 m2 ∧ (∀ (r3 : Int32) (m4 : wM), qJ7_fill_53178 21 0 m2 r3 m4 →
      pJ7_fill_53178 22 0 m4 ∧ (∀ (r5 : Int32) (m6 : wM), qJ7_fill_53178 22 0 m4 r5 m6 →
        K 19 [some (.ref 3), some (.ref 2), some (.ref q), some (.int n), some (.int ((w_mn n (m6 2 5)) - 1))] [] m6)))) : w_n 0 gX0_read shX rfX 43 none R tX0_read uX0_read K 21 0 [some (.ref 3), some (.ref 2), some (.ref q), some (.int n), none] [] μ :=
  And.intro (And.intro (of_decide_eq_true rfl) rfl) (And.intro (Exists.intro _ (Exists.intro _ (And.intro rfl (h.1)))) (fun r1 m2 z565 => And.intro (And.intro (of_decide_eq_true rfl) rfl) (And.intro (Exists.intro _ (Exists.intro _ (And.intro rfl ((h.2 r1 m2 z565).1)))) (fun r3 m4 z566 => And.intro (And.intro (of_decide_eq_true rfl) rfl) (And.intro (Exists.intro _ (Exists.intro _ (And.intro rfl (((h.2 r1 m2 z565).2 r3 m4 z566).1)))) (fun r5 m6 z567 => And.intro (And.intro (of_decide_eq_true rfl) rfl) (And.intro (Exists.intro _ (Exists.intro _ (And.intro rfl (trivial)))) (fun _ _ z570 => by obtain ⟨z568, z569⟩ := z570; have z568 := z568.symm; have z569 := z569.symm; subst z568; subst z569; exact (((h.2 r1 m2 z565).2 r3 m4 z566).2 r5 m6 z567)))))))))
set_option maxHeartbeats 4000000 in
set_option maxRecDepth 100000 in
theorem vcX0_read_19 (K : wK) (R : Int32 → wM → Prop) (q : Nat) (n : Int32) (l4 : Int32) (μ : wM) (h : (
    (((l4 : Int32) < 0) → (q < 43 ∧ shX q = .inl 1) ∧ (
      ((((μ q 1) : Int32) = 2) → (∀ (r1 : Int32) (m2 : wM), qX0_joinJudges  μ r1 m2 →
        pX0_rank q m2 ∧ (∀ (r3 : Int32) (m4 : wM), qX0_rank q m2 r3 m4 →
          R 0 m4))) ∧
      (¬ (((μ q 1) : Int32) = 2) → pX0_rank q μ ∧ (∀ (r5 : Int32) (m6 : wM), qX0_rank q μ r5 m6 →
        R 0 m6)))) ∧
    (¬ ((l4 : Int32) < 0) → (vp_in l4 160) ∧ (q < 43 ∧ shX q = .inl 1) ∧ (
      ((((μ 14 (l4 : Int32).toNatClampNeg) : Int32) = (μ q 0)) → pX0_take q l4 μ ∧ (∀ (r7 : Int32) (m8 : wM), qX0_take q l4 μ r7 m8 →
        K 19 [some (.ref 3), some (.ref 2), some (.ref q), some (.int n), some (.int (l4 + (-1)))] [] m8)) ∧
      (¬ (((μ 14 (l4 : Int32).toNatClampNeg) : Int32) = (μ q 0)) → K 19 [some (.ref 3), some (.ref 2), some (.ref q), some (.int n), some (.int (l4 + (-1)))] [] μ))))) : w_n 0 gX0_read shX rfX 43 none R tX0_read uX0_read K 21 19 [some (.ref 3), some (.ref 2), some (.ref q), some (.int n), some (.int l4)] [] μ :=
  And.intro (fun z571 => And.intro ((h.1 z571).1) (And.intro (fun z573 => And.intro (And.intro rfl (trivial)) (fun r1 m2 z575 => And.intro (Exists.intro _ (And.intro rfl ((((h.1 z571).2.1 z573) r1 m2 z575).1))) (fun r3 m4 z576 => ((((h.1 z571).2.1 z573) r1 m2 z575).2 r3 m4 z576)))) (fun z574 => And.intro (Exists.intro _ (And.intro rfl (((h.1 z571).2.2 z574).1))) (fun r5 m6 z577 => (((h.1 z571).2.2 z574).2 r5 m6 z577))))) (fun z572 => And.intro (And.intro (of_decide_eq_true rfl) rfl) (And.intro (And.intro (of_decide_eq_true rfl) (Exists.intro _ (And.intro rfl ((h.2 z572).1)))) (And.intro ((h.2 z572).2.1) (And.intro (fun z578 => And.intro (Exists.intro _ (Exists.intro _ (And.intro rfl (((h.2 z572).2.2.1 z578).1)))) (fun r7 m8 z580 => (((h.2 z572).2.2.1 z578).2 r7 m8 z580))) (fun z579 => ((h.2 z572).2.2.2 z579))))))
set_option maxHeartbeats 4000000 in
theorem vX0_read (q : Nat) (n : Int32) (μ : wM) (h : pX0_read q n μ) (K : wK) (hK : w_cl 0 gX0_read shX rfX 43 none (qX0_read q n μ) tX0_read K) : K 0 [some (.ref 3), some (.ref 2), some (.ref q), some (.int n), none] [] μ := by
  unfold pX0_read at h
  obtain ⟨h1, h2, h3, h4, h5, h6, h7, h8⟩ := h
  obtain ⟨C, hC, hCn, hCc⟩ := vp_in_le h4 (by decide)
  rw [hCn] at h6
  have hnC : n.toNatClampNeg ≤ C := (cl_le (by omega)).mp h6
  obtain ⟨N, hN0, hN⟩ : ∃ N : Nat, N < 2 ^ 31 ∧ n = nI N := nI_of (i_nlt.mpr h5)
  have hNc : n.toNatClampNeg = N := by rw [hN]; exact nI_clamp hN0
  rw [hNc] at hnC
  have fin : ∀ t : wB, w_Zt t → (t = (if μ q 1 = 2 then w_join (w_tks (fun i => decide (μ 14 i = μ q 0)) (fun i t => w_take (μ q 1) (μ q 7) (μ q 8) (μ q 9) (μ 15 i).toNatClampNeg (μ 16 i) (μ 17 i) (μ 18 i) t) N w_c0) 10 else w_tks (fun i => decide (μ 14 i = μ q 0)) (fun i t => w_take (μ q 1) (μ q 7) (μ q 8) (μ q 9) (μ 15 i).toNatClampNeg (μ 16 i) (μ 17 i) (μ 18 i) t) N w_c0)) → qX0_read q n μ 0 (w_row (w_Tb μ t) 19 (fun j => if j < 10 then w_plc (w_Tb μ t q 1) (w_Tb μ t q 6) (w_Tb μ t 20) (w_Tb μ t 21) j else w_Tb μ t 19 j)) := by
    intro t hz ht
    have e : t = w_TT μ q N := ht
    rw [w_Tb_ne _ _ (a := q) (by omega) (by omega) (by omega), w_Tb_ne μ t (a := 19) (by decide) (by decide) (by decide), w_Tb_20, w_Tb_21]
    refine ⟨?_, ?_⟩
    · rw [hNc]
      unfold w_aft w_pl
      rw [← e]
    · unfold w_Z
      rw [w_row_ne _ _ (by decide), w_row_ne _ _ (by decide), w_row_ne _ _ (by decide), w_Tb_20, w_Tb_21, w_Tb_22]
      exact hz
  have loop : ∀ (i : Nat) (t : wB), i ≤ N → w_Zc (μ q 1) t → w_tks (fun i => decide (μ 14 i = μ q 0)) (fun i t => w_take (μ q 1) (μ q 7) (μ q 8) (μ q 9) (μ 15 i).toNatClampNeg (μ 16 i) (μ 17 i) (μ 18 i) t) i t = w_tks (fun i => decide (μ 14 i = μ q 0)) (fun i t => w_take (μ q 1) (μ q 7) (μ q 8) (μ q 9) (μ 15 i).toNatClampNeg (μ 16 i) (μ 17 i) (μ 18 i) t) N w_c0 → K 19 [some (.ref 3), some (.ref 2), some (.ref q), some (.int n), some (.int (nI i - 1))] [] (w_Tb μ t) := by
    intro i
    induction i with
    | zero =>
      intro t hi hz he
      refine hK uX0_read 21 _ _ _ _ (vcX0_read_19 K _ q n (nI 0 - 1) (w_Tb μ t) ?_)
      refine ⟨fun _ => ⟨⟨h1, h2⟩, fun c => fun r1 m2 hm2 => ⟨⟨h1, h2, by omega⟩, fun r3 m4 hm4 => ?_⟩, fun c => ⟨⟨h1, h2, by omega⟩, fun r3 m4 hm4 => ?_⟩⟩, fun z => absurd (by decide) z⟩
      · rw [w_Tb_ne _ _ (a := q) (by omega) (by omega) (by omega)] at c
        unfold qX0_joinJudges at hm2
        rw [w_Tb_20, w_Tb_21, w_Tb_22, w_Tb_Tb] at hm2
        unfold qX0_rank at hm4
        rw [hm4, hm2]
        refine fin _ (w_join_Z hz.1 10 (Nat.le_refl _)) ?_
        rw [if_pos c, ← he]
        rfl
      · rw [w_Tb_ne _ _ (a := q) (by omega) (by omega) (by omega)] at c
        unfold qX0_rank at hm4
        rw [hm4]
        refine fin _ hz.1 ?_
        rw [if_neg c, ← he]
        rfl
    | succ i ih =>
      intro t hi hz he
      rw [nI_pred]
      refine hK uX0_read 21 _ _ _ _ (vcX0_read_19 K _ q n (nI i) (w_Tb μ t) ?_)
      rw [w_tks] at he
      rw [nI_clamp (by omega), w_Tb_ne _ _ (a := q) (by omega) (by omega) (by omega), w_Tb_ne _ _ (a := 14) (by decide) (by decide) (by decide), show nI i + (-1) = nI i - 1 from (Int32.sub_eq_add_neg _ _).symm]
      refine ⟨fun z => absurd z (nI_pos (by omega)), fun _ => ⟨vp_in_nI (by omega) (by omega), ⟨h1, h2⟩, fun c => ?_, fun c => ?_⟩⟩
      · obtain ⟨v1, v2⟩ := h7 i (by rw [hCc]; omega) c
        rw [if_pos (by simp [c])] at he
        refine ⟨?_, fun r m hm => ?_⟩
        · unfold pX0_take
          rw [nI_clamp (by omega), w_Tb_ne _ _ (a := q) (by omega) (by omega) (by omega), w_Tb_ne _ _ (a := 15) (by decide) (by decide) (by decide), w_Tb_ne _ _ (a := 16) (by decide) (by decide) (by decide), w_Tb_21]
          exact ⟨h1, h2, vp_in_nI (by omega) (by omega), v1, v2, fun k0 => hz.2 k0 _⟩
        · unfold qX0_take at hm
          rw [nI_clamp (by omega), w_Tb_ne _ _ (a := q) (by omega) (by omega) (by omega), w_Tb_ne _ _ (a := 15) (by decide) (by decide) (by decide), w_Tb_ne _ _ (a := 16) (by decide) (by decide) (by decide), w_Tb_ne _ _ (a := 17) (by decide) (by decide) (by decide), w_Tb_ne _ _ (a := 18) (by decide) (by decide) (by decide), w_Tb_20, w_Tb_21, w_Tb_22, w_Tb_Tb] at hm
          rw [hm]
          exact ih _ (by omega) (w_take_Z (vp_in_lt v1) (fun k2 => vp_in_lt (v2 k2)) hz) he
      · rw [if_neg (by simp [c])] at he
        exact ih t (by omega) hz he
  refine hK uX0_read 21 _ _ _ _ (vcX0_read_0 K _ q n μ ?_)
  have a20 : w_al shX 20 = 60 := rfl
  have a21 : w_al shX 21 = 10 := rfl
  have a22 : w_al shX 22 = 30 := rfl
  refine ⟨⟨by decide, rfl, by decide⟩, fun r1 m2 hm2 => ⟨⟨by decide, rfl, by decide⟩, fun r3 m4 hm4 => ⟨⟨by decide, rfl, by decide⟩, fun r5 m6 hm6 => ?_⟩⟩⟩
  have e6 : m6 = w_Tb μ w_c0 := by
    unfold qJ7_fill_53178 at hm2 hm4 hm6
    rw [a20] at hm2
    rw [a21] at hm4
    rw [a22] at hm6
    obtain ⟨z1, z2, z3⟩ := h8
    rw [hm6, hm4, hm2]
    funext a b
    unfold w_fill w_Tb w_c0
    by_cases e0 : a = 20
    · subst e0
      by_cases hb : b < 60
      · simp [hb]
      · simp [hb]
        exact z1 b (by omega)
    · by_cases e1 : a = 21
      · subst e1
        by_cases hb : b < 10
        · simp [hb]
        · simp [hb]
          exact z2 b (by omega)
      · by_cases e2 : a = 22
        · subst e2
          by_cases hb : b < 30
          · simp [hb]
          · simp [hb]
            exact z3 b (by omega)
        · simp [e0, e1, e2]
  have e25 : m6 2 5 = nI C := by rw [e6, w_Tb_ne _ _ (by decide) (by decide) (by decide)]; exact hCn
  have emn : w_mn n (m6 2 5) = nI N := by
    rw [e25, hN]
    unfold w_mn
    rw [if_neg (nI_nlt hnC (by omega))]
  rw [emn, e6]
  exact loop N w_c0 (Nat.le_refl _) ⟨⟨fun j hj => by show (if j < 60 then (-1 : Int32) else 0) = 0; rw [if_neg (by omega)], fun _ _ => rfl, fun _ _ => rfl⟩, fun _ _ => vp_in_nI (n := 0) (by decide) (by decide)⟩ rfl
set_option maxRecDepth 100000 in
theorem zX0_read (l : Launch) : ∀ (idx : Nat) (S : wS), gX0_read idx = some S → w_Call l 0 idx S 5 shX rfX 43 := by
  intro idx S hS
  unfold gX0_read at hS
  split at hS
  · cases hS
    exact w_callS (mJ7_fill_53178 l) eJ7_fill_53178.1 (by decide +kernel) eJ7_fill_53178.2.1 eJ7_fill_53178.2.2 (by decide +kernel) (by decide) (by decide)
  · cases hS
    exact w_callMin (by decide) (by decide +kernel) (by decide +kernel) (by decide +kernel) (by decide +kernel)
  · cases hS
    exact w_callV (ci := 0) (mX0_take l) (by decide) rX0_take eX0_take.1 (by decide +kernel) eX0_take.2.1 eX0_take.2.2.1 eX0_take.2.2.2 (by decide +kernel) (by decide) (by decide)
  · cases hS
    exact w_callV (ci := 0) (mX0_joinJudges l) (by decide) rX0_joinJudges eX0_joinJudges.1 (by decide +kernel) eX0_joinJudges.2.1 eX0_joinJudges.2.2.1 eX0_joinJudges.2.2.2 (by decide +kernel) (by decide) (by decide)
  · cases hS
    exact w_callV (ci := 0) (mX0_rank l) (by decide) rX0_rank eX0_rank.1 (by decide +kernel) eX0_rank.2.1 eX0_rank.2.2.1 eX0_rank.2.2.2 (by decide +kernel) (by decide) (by decide)
  · cases hS
theorem mX0_read (l : Launch) : w_Met l yX0_read cX0_read 5 none 5 shX rfX 43 sX0_read.2.2.2.1 sX0_read.2.2.2.2 :=
  w_meth (o := 0) (Γ := gX0_read) (tb := tX0_read) (by decide +kernel) rfl kX0_read rfl (zX0_read l) (fun as μ h => by obtain ⟨q, n, rfl, h⟩ := h; exact Nat.le_of_ble_eq_true rfl) (fun as μ h K hK => by obtain ⟨q, n, rfl, h⟩ := h; exact vX0_read q n μ h K hK)
set_option maxRecDepth 100000 in
theorem eX0_read : Cond.code yX0_read cX0_read 5 none ∈ w_tbl ∧ Cond.instanceMethod yX0_read ∈ w_tbl ∧ Cond.selects (w_C 0) yX0_read yX0_read ∈ w_tbl ∧ Cond.initialized yX0_read.cls ∈ w_tbl := ⟨by decide +kernel, by decide +kernel, by decide +kernel, by decide +kernel⟩
theorem rX0_read : ∀ as μ, sX0_read.2.2.2.1 as μ → ∃ q as', as = .ref q :: as' ∧ q < 43 ∧ shX q = .inl 0 := by
  intro as μ h
  obtain ⟨q, n, rfl, h⟩ := h
  exact ⟨_, _, rfl, by decide, rfl⟩

/-! X0_judgesFor -/
def pX0_judgesFor (x : Int32) (y : Int32) (μ : wM) : Prop := vp_in x 10 ∧ vp_in y 10
def qX0_judgesFor (x : Int32) (y : Int32) (μ : wM) (r : Int32) (μ' : wM) : Prop := r = (nI (w_jf (μ 22) x.toNatClampNeg y.toNatClampNeg 3)) ∧ μ' = μ
def sX0_judgesFor : wS := (false, false, 3, fun as μ => ∃ x, ∃ y, as = [.ref 3, .int x, .int y] ∧ pX0_judgesFor x y μ, fun as μ r μ' => match as with
  | [.ref _, .int x, .int y] => qX0_judgesFor x y μ r μ'
  | _ => False)
def gX0_judgesFor : Nat → Option wS := fun k => match k with
  | _ => none
def uX0_judgesFor : Nat → Option (List Nat) := fun j => match j with | 4 => some [] | _ => none
set_option maxHeartbeats 4000000 in
set_option maxRecDepth 100000 in
theorem vcX0_judgesFor_0 (K : wK) (R : Int32 → wM → Prop) (x : Int32) (y : Int32) (μ : wM) (h : K 4 [some (.ref 3), some (.int x), some (.int y), some (.int 0), some (.int 0)] [] μ) : w_n 0 gX0_judgesFor shX rfX 43 (some .int) R tX0_judgesFor uX0_judgesFor K 29 0 [some (.ref 3), some (.int x), some (.int y), none, none] [] μ :=
  h
set_option maxHeartbeats 4000000 in
set_option maxRecDepth 100000 in
theorem vcX0_judgesFor_4 (K : wK) (R : Int32 → wM → Prop) (x : Int32) (y : Int32) (l3 : Int32) (l4 : Int32) (μ : wM) (h : (
    (((3 : Int32) ≤ l4) → R l3 μ) ∧
    (¬ ((3 : Int32) ≤ l4) → (vp_in ((x * 3) + l4) 30) ∧ (vp_in ((y * 3) + l4) 30) ∧ (
      ((((μ 22 (((y * 3) + l4) : Int32).toNatClampNeg) : Int32) ≤ (μ 22 (((x * 3) + l4) : Int32).toNatClampNeg)) → K 4 [some (.ref 3), some (.int x), some (.int y), some (.int (l3 + 0)), some (.int (l4 + 1))] [] μ) ∧
      (¬ (((μ 22 (((y * 3) + l4) : Int32).toNatClampNeg) : Int32) ≤ (μ 22 (((x * 3) + l4) : Int32).toNatClampNeg)) → K 4 [some (.ref 3), some (.int x), some (.int y), some (.int (l3 + 1)), some (.int (l4 + 1))] [] μ))))) : w_n 0 gX0_judgesFor shX rfX 43 (some .int) R tX0_judgesFor uX0_judgesFor K 29 4 [some (.ref 3), some (.int x), some (.int y), some (.int l3), some (.int l4)] [] μ :=
  And.intro (fun z585 => And.intro trivial ((h.1 z585))) (fun z586 => And.intro (And.intro (of_decide_eq_true rfl) rfl) (And.intro (And.intro (of_decide_eq_true rfl) (Exists.intro _ (And.intro rfl ((h.2 z586).1)))) (And.intro (And.intro (of_decide_eq_true rfl) rfl) (And.intro (And.intro (of_decide_eq_true rfl) (Exists.intro _ (And.intro rfl ((h.2 z586).2.1)))) (And.intro (fun z587 => ((h.2 z586).2.2.1 z587)) (fun z588 => ((h.2 z586).2.2.2 z588)))))))
set_option maxHeartbeats 4000000 in
theorem vX0_judgesFor (x : Int32) (y : Int32) (μ : wM) (h : pX0_judgesFor x y μ) (K : wK) (hK : w_cl 0 gX0_judgesFor shX rfX 43 (some .int) (qX0_judgesFor x y μ) tX0_judgesFor K) : K 0 [some (.ref 3), some (.int x), some (.int y), none, none] [] μ := by
  unfold pX0_judgesFor at h
  obtain ⟨h3, h4⟩ := h
  obtain ⟨X, hX, rfl, hXc⟩ := vp_in_le h3 (by decide)
  obtain ⟨Y, hY, rfl, hYc⟩ := vp_in_le h4 (by decide)
  have loop : ∀ (k i : Nat), i + k = 3 → K 4 [some (.ref 3), some (.int (nI X)), some (.int (nI Y)), some (.int (nI (w_jf (μ 22) X Y i))), some (.int (nI i))] [] μ := by
    intro k
    induction k with
    | zero =>
      intro i hi
      refine hK uX0_judgesFor 29 _ _ _ _ (vcX0_judgesFor_4 K _ (nI X) (nI Y) (nI (w_jf (μ 22) X Y i)) (nI i) μ ?_)
      refine ⟨fun _ => ⟨?_, rfl⟩, fun z => absurd (nI_le (a := 3) (by omega) (by omega)) z⟩
      rw [hXc, hYc, show i = 3 by omega]
    | succ k ih =>
      intro i hi
      refine hK uX0_judgesFor 29 _ _ _ _ (vcX0_judgesFor_4 K _ (nI X) (nI Y) (nI (w_jf (μ 22) X Y i)) (nI i) μ ?_)
      have z := ih (i + 1) (by omega)
      unfold w_jf at z
      rw [w_cnt] at z
      rw [ix3, ix3, nI_clamp (by omega), nI_clamp (by omega), nI_1 i]
      refine ⟨fun z => absurd z (nI_ge (b := 3) (by omega) (by omega)), fun _ => ⟨vp_in_nI (by omega) (by omega), vp_in_nI (by omega) (by omega), fun c => ?_, fun c => ?_⟩⟩
      · rw [if_neg (by simp only [decide_eq_true_eq]; exact i_nlt.mpr c)] at z
        rw [Int32.add_zero]
        exact z
      · rw [if_pos (by simp only [decide_eq_true_eq]; exact i_nle.mp c), ← nI_1] at z
        exact z
  refine hK uX0_judgesFor 29 _ _ _ _ (vcX0_judgesFor_0 K _ (nI X) (nI Y) μ ?_)
  exact loop 3 0 rfl
set_option maxRecDepth 100000 in
theorem zX0_judgesFor (l : Launch) : ∀ (idx : Nat) (S : wS), gX0_judgesFor idx = some S → w_Call l 0 idx S 1 shX rfX 43 := by
  intro idx S hS
  unfold gX0_judgesFor at hS
  split at hS
  · cases hS
theorem mX0_judgesFor (l : Launch) : w_Met l yX0_judgesFor cX0_judgesFor 5 (some .int) 1 shX rfX 43 sX0_judgesFor.2.2.2.1 sX0_judgesFor.2.2.2.2 :=
  w_meth (o := 0) (Γ := gX0_judgesFor) (tb := tX0_judgesFor) (by decide +kernel) rfl kX0_judgesFor rfl (zX0_judgesFor l) (fun as μ h => by obtain ⟨x, y, rfl, h⟩ := h; exact Nat.le_of_ble_eq_true rfl) (fun as μ h K hK => by obtain ⟨x, y, rfl, h⟩ := h; exact vX0_judgesFor x y μ h K hK)
set_option maxRecDepth 100000 in
theorem eX0_judgesFor : Cond.code yX0_judgesFor cX0_judgesFor 5 (some .int) ∈ w_tbl ∧ Cond.instanceMethod yX0_judgesFor ∈ w_tbl ∧ Cond.selects (w_C 0) yX0_judgesFor yX0_judgesFor ∈ w_tbl ∧ Cond.initialized yX0_judgesFor.cls ∈ w_tbl := ⟨by decide +kernel, by decide +kernel, by decide +kernel, by decide +kernel⟩
theorem rX0_judgesFor : ∀ as μ, sX0_judgesFor.2.2.2.1 as μ → ∃ q as', as = .ref q :: as' ∧ q < 43 ∧ shX q = .inl 0 := by
  intro as μ h
  obtain ⟨x, y, rfl, h⟩ := h
  exact ⟨_, _, rfl, by decide, rfl⟩

/-! X0_beatsAll -/
def pX0_beatsAll (x : Int32) (μ : wM) : Prop := vp_in x 10
def qX0_beatsAll (x : Int32) (μ : wM) (r : Int32) (μ' : wM) : Prop := r = (w_B01 (w_bts (μ 19) (μ 22) x.toNatClampNeg)) ∧ μ' = μ
def sX0_beatsAll : wS := (false, false, 2, fun as μ => ∃ x, as = [.ref 3, .int x] ∧ pX0_beatsAll x μ, fun as μ r μ' => match as with
  | [.ref _, .int x] => qX0_beatsAll x μ r μ'
  | _ => False)
def gX0_beatsAll : Nat → Option wS := fun k => match k with
  | 114 => some sX0_isTold
  | 117 => some sX0_judgesFor
  | _ => none
def uX0_beatsAll : Nat → Option (List Nat) := fun j => match j with | 2 => some [] | _ => none
set_option maxHeartbeats 4000000 in
set_option maxRecDepth 100000 in
theorem vcX0_beatsAll_0 (K : wK) (R : Int32 → wM → Prop) (x : Int32) (μ : wM) (h : K 2 [some (.ref 3), some (.int x), some (.int 0)] [] μ) : w_n 0 gX0_beatsAll shX rfX 43 (some .boolean) R tX0_beatsAll uX0_beatsAll K 20 0 [some (.ref 3), some (.int x), none] [] μ :=
  h
set_option maxHeartbeats 4000000 in
set_option maxRecDepth 100000 in
theorem vcX0_beatsAll_2 (K : wK) (R : Int32 → wM → Prop) (x : Int32) (l2 : Int32) (μ : wM) (h : (
    (((10 : Int32) ≤ l2) → R 1 μ) ∧
    (¬ ((10 : Int32) ≤ l2) → (
      (((l2 : Int32) = x) → K 2 [some (.ref 3), some (.int x), some (.int (l2 + 1))] [] μ) ∧
      (¬ ((l2 : Int32) = x) → pX0_isTold l2 μ ∧ (
        ((decide (0 < μ 19 (l2 : Int32).toNatClampNeg)) = false → K 2 [some (.ref 3), some (.int x), some (.int (l2 + 1))] [] μ) ∧
        ((decide (0 < μ 19 (l2 : Int32).toNatClampNeg)) = true → pX0_judgesFor x l2 μ ∧ (
          (((2 : Int32) ≤ (nI (w_jf (μ 22) (x : Int32).toNatClampNeg (l2 : Int32).toNatClampNeg 3))) → K 2 [some (.ref 3), some (.int x), some (.int (l2 + 1))] [] μ) ∧
          (¬ ((2 : Int32) ≤ (nI (w_jf (μ 22) (x : Int32).toNatClampNeg (l2 : Int32).toNatClampNeg 3))) → R 0 μ))))))))) : w_n 0 gX0_beatsAll shX rfX 43 (some .boolean) R tX0_beatsAll uX0_beatsAll K 20 2 [some (.ref 3), some (.int x), some (.int l2)] [] μ :=
  And.intro (fun z603 => And.intro (Or.inr rfl) ((h.1 z603))) (fun z604 => And.intro (fun z605 => ((h.2 z604).1 z605)) (fun z606 => And.intro (Exists.intro _ (And.intro rfl (((h.2 z604).2 z606).1))) (fun _ _ z609 => by obtain ⟨z607, z608⟩ := z609; have z607 := z607.symm; have z608 := z608.symm; subst z607; subst z608; exact And.intro (fun z610 => (((h.2 z604).2 z606).2.1 (w_B01_0.mp z610))) (fun z611 => And.intro (Exists.intro _ (Exists.intro _ (And.intro rfl ((((h.2 z604).2 z606).2.2 (w_B01_n.mp z611)).1)))) (fun _ _ z614 => by obtain ⟨z612, z613⟩ := z614; have z612 := z612.symm; have z613 := z613.symm; subst z612; subst z613; exact And.intro (fun z615 => ((((h.2 z604).2 z606).2.2 (w_B01_n.mp z611)).2.1 z615)) (fun z616 => And.intro (Or.inl rfl) (((((h.2 z604).2 z606).2.2 (w_B01_n.mp z611)).2.2 z616))))))))
set_option maxHeartbeats 4000000 in
theorem vX0_beatsAll (x : Int32) (μ : wM) (h : pX0_beatsAll x μ) (K : wK) (hK : w_cl 0 gX0_beatsAll shX rfX 43 (some .boolean) (qX0_beatsAll x μ) tX0_beatsAll K) : K 0 [some (.ref 3), some (.int x), none] [] μ := by
  unfold pX0_beatsAll at h
  obtain ⟨X, hX, rfl, hXc⟩ := vp_in_le h (by decide)
  have loop : ∀ (k i : Nat), i + k = 10 → (∀ o, o < i → (decide (o = X) || (!(decide (0 < μ 19 o)) || decide (2 ≤ w_jf (μ 22) X o 3))) = true) → K 2 [some (.ref 3), some (.int (nI X)), some (.int (nI i))] [] μ := by
    intro k
    induction k with
    | zero =>
      intro i hi ha
      refine hK uX0_beatsAll 20 _ _ _ _ (vcX0_beatsAll_2 K _ (nI X) (nI i) μ ?_)
      refine ⟨fun _ => ⟨w_B01_t ?_, rfl⟩, fun z => absurd (nI_le (a := 10) (by omega) (by omega)) z⟩
      rw [hXc]
      exact w_allB_t.mpr (fun j hj => ha j (by omega))
    | succ k ih =>
      intro i hi ha
      refine hK uX0_beatsAll 20 _ _ _ _ (vcX0_beatsAll_2 K _ (nI X) (nI i) μ ?_)
      rw [nI_clamp (by omega), hXc, nI_1 i]
      have nx : (decide (i = X) || (!(decide (0 < μ 19 i)) || decide (2 ≤ w_jf (μ 22) X i 3))) = true → K 2 [some (.ref 3), some (.int (nI X)), some (.int (nI (i + 1)))] [] μ := fun hh => ih (i + 1) (by omega) (fun o ho => by
        by_cases e : o = i
        · rw [e]; exact hh
        · exact ha o (by omega))
      have hle : w_jf (μ 22) X i 3 ≤ 3 := w_cnt_le _ _
      refine ⟨fun z => absurd z (nI_ge (b := 10) (by omega) (by omega)), fun _ => ⟨fun c => nx ?_, fun c => ⟨vp_in_nI (by omega) (by omega), fun c2 => nx ?_, fun c2 => ⟨⟨h, vp_in_nI (by omega) (by omega)⟩, fun c3 => nx ?_, fun c3 => ⟨w_B01_f ?_, rfl⟩⟩⟩⟩⟩
      · rw [(nI_eq (by omega) (by omega)).mp c]; simp
      · rw [c2]; simp
      · have : 2 ≤ w_jf (μ 22) X i 3 := (nI_leI (a := 2) (by omega) (by omega)).mp c3
        simp [this]
      · rw [hXc]
        intro z
        have z := w_allB_t.mp z i (by omega)
        have e1 : ¬ i = X := fun e => c (by rw [e])
        have e3 : ¬ 2 ≤ w_jf (μ 22) X i 3 := fun e => c3 ((nI_leI (a := 2) (by omega) (by omega)).mpr e)
        rw [c2] at z
        simp [e1, e3] at z
  refine hK uX0_beatsAll 20 _ _ _ _ (vcX0_beatsAll_0 K _ (nI X) μ ?_)
  exact loop 10 0 rfl (fun o ho => absurd ho (Nat.not_lt_zero _))
set_option maxRecDepth 100000 in
theorem zX0_beatsAll (l : Launch) : ∀ (idx : Nat) (S : wS), gX0_beatsAll idx = some S → w_Call l 0 idx S 2 shX rfX 43 := by
  intro idx S hS
  unfold gX0_beatsAll at hS
  split at hS
  · cases hS
    exact w_callV (ci := 0) (mX0_isTold l) (by decide) rX0_isTold eX0_isTold.1 (by decide +kernel) eX0_isTold.2.1 eX0_isTold.2.2.1 eX0_isTold.2.2.2 (by decide +kernel) (by decide) (by decide)
  · cases hS
    exact w_callV (ci := 0) (mX0_judgesFor l) (by decide) rX0_judgesFor eX0_judgesFor.1 (by decide +kernel) eX0_judgesFor.2.1 eX0_judgesFor.2.2.1 eX0_judgesFor.2.2.2 (by decide +kernel) (by decide) (by decide)
  · cases hS
theorem mX0_beatsAll (l : Launch) : w_Met l yX0_beatsAll cX0_beatsAll 3 (some .boolean) 2 shX rfX 43 sX0_beatsAll.2.2.2.1 sX0_beatsAll.2.2.2.2 :=
  w_meth (o := 0) (Γ := gX0_beatsAll) (tb := tX0_beatsAll) (by decide +kernel) rfl kX0_beatsAll rfl (zX0_beatsAll l) (fun as μ h => by obtain ⟨x, rfl, h⟩ := h; exact Nat.le_of_ble_eq_true rfl) (fun as μ h K hK => by obtain ⟨x, rfl, h⟩ := h; exact vX0_beatsAll x μ h K hK)
set_option maxRecDepth 100000 in
theorem eX0_beatsAll : Cond.code yX0_beatsAll cX0_beatsAll 3 (some .boolean) ∈ w_tbl ∧ Cond.instanceMethod yX0_beatsAll ∈ w_tbl ∧ Cond.selects (w_C 0) yX0_beatsAll yX0_beatsAll ∈ w_tbl ∧ Cond.initialized yX0_beatsAll.cls ∈ w_tbl := ⟨by decide +kernel, by decide +kernel, by decide +kernel, by decide +kernel⟩
theorem rX0_beatsAll : ∀ as μ, sX0_beatsAll.2.2.2.1 as μ → ∃ q as', as = .ref q :: as' ∧ q < 43 ∧ shX q = .inl 0 := by
  intro as μ h
  obtain ⟨x, rfl, h⟩ := h
  exact ⟨_, _, rfl, by decide, rfl⟩

/-! X0_leastParadox -/
def pX0_leastParadox (μ : wM) : Prop := True
def qX0_leastParadox (μ : wM) (r : Int32) (μ' : wM) : Prop := r = (w_find (fun i => decide (1 < μ 19 i) && w_bts (μ 19) (μ 22) i) 10 0) ∧ μ' = μ
def sX0_leastParadox : wS := (false, false, 1, fun as μ => as = [.ref 3] ∧ pX0_leastParadox μ, fun as μ r μ' => match as with
  | [.ref _] => qX0_leastParadox μ r μ'
  | _ => False)
def gX0_leastParadox : Nat → Option wS := fun k => match k with
  | 110 => some sX0_beatsAll
  | _ => none
def uX0_leastParadox : Nat → Option (List Nat) := fun j => match j with | 2 => some [] | _ => none
set_option maxHeartbeats 4000000 in
set_option maxRecDepth 100000 in
theorem vcX0_leastParadox_0 (K : wK) (R : Int32 → wM → Prop) (μ : wM) (h : K 2 [some (.ref 3), some (.int 0)] [] μ) : w_n 0 gX0_leastParadox shX rfX 43 (some .int) R tX0_leastParadox uX0_leastParadox K 17 0 [some (.ref 3), none] [] μ :=
  h
set_option maxHeartbeats 4000000 in
set_option maxRecDepth 100000 in
theorem vcX0_leastParadox_2 (K : wK) (R : Int32 → wM → Prop) (l1 : Int32) (μ : wM) (h : (
    (((10 : Int32) ≤ l1) → R (-2) μ) ∧
    (¬ ((10 : Int32) ≤ l1) → (vp_in l1 10) ∧ (
      ((((μ 19 (l1 : Int32).toNatClampNeg) : Int32) ≤ 1) → K 2 [some (.ref 3), some (.int (l1 + 1))] [] μ) ∧
      (¬ (((μ 19 (l1 : Int32).toNatClampNeg) : Int32) ≤ 1) → pX0_beatsAll l1 μ ∧ (
        ((w_bts (μ 19) (μ 22) (l1 : Int32).toNatClampNeg) = false → K 2 [some (.ref 3), some (.int (l1 + 1))] [] μ) ∧
        ((w_bts (μ 19) (μ 22) (l1 : Int32).toNatClampNeg) = true → R l1 μ))))))) : w_n 0 gX0_leastParadox shX rfX 43 (some .int) R tX0_leastParadox uX0_leastParadox K 17 2 [some (.ref 3), some (.int l1)] [] μ :=
  And.intro (fun z626 => And.intro trivial ((h.1 z626))) (fun z627 => And.intro (And.intro (of_decide_eq_true rfl) rfl) (And.intro (And.intro (of_decide_eq_true rfl) (Exists.intro _ (And.intro rfl ((h.2 z627).1)))) (And.intro (fun z628 => ((h.2 z627).2.1 z628)) (fun z629 => And.intro (Exists.intro _ (And.intro rfl (((h.2 z627).2.2 z629).1))) (fun _ _ z632 => by obtain ⟨z630, z631⟩ := z632; have z630 := z630.symm; have z631 := z631.symm; subst z630; subst z631; exact And.intro (fun z633 => (((h.2 z627).2.2 z629).2.1 (w_B01_0.mp z633))) (fun z634 => And.intro trivial ((((h.2 z627).2.2 z629).2.2 (w_B01_n.mp z634)))))))))
set_option maxHeartbeats 4000000 in
theorem vX0_leastParadox (μ : wM) (h : pX0_leastParadox μ) (K : wK) (hK : w_cl 0 gX0_leastParadox shX rfX 43 (some .int) (qX0_leastParadox μ) tX0_leastParadox K) : K 0 [some (.ref 3), none] [] μ := by
  unfold pX0_leastParadox at h
  have loop : ∀ (k i : Nat), i + k = 10 → w_find (fun i => decide (1 < μ 19 i) && w_bts (μ 19) (μ 22) i) 10 0 = w_find (fun i => decide (1 < μ 19 i) && w_bts (μ 19) (μ 22) i) k i → K 2 [some (.ref 3), some (.int (nI i))] [] μ := by
    intro k
    induction k with
    | zero =>
      intro i hi he
      refine hK uX0_leastParadox 17 _ _ _ _ (vcX0_leastParadox_2 K _ (nI i) μ ?_)
      exact ⟨fun _ => ⟨by rw [he]; rfl, rfl⟩, fun z => absurd (nI_le (a := 10) (by omega) (by omega)) z⟩
    | succ k ih =>
      intro i hi he
      refine hK uX0_leastParadox 17 _ _ _ _ (vcX0_leastParadox_2 K _ (nI i) μ ?_)
      rw [show w_find (fun i => decide (1 < μ 19 i) && w_bts (μ 19) (μ 22) i) (k + 1) i = (if (decide (1 < μ 19 i) && w_bts (μ 19) (μ 22) i) = true then nI i else w_find (fun i => decide (1 < μ 19 i) && w_bts (μ 19) (μ 22) i) k (i + 1)) from rfl] at he
      rw [nI_clamp (by omega), nI_1 i]
      refine ⟨fun z => absurd z (nI_ge (b := 10) (by omega) (by omega)), fun _ => ⟨vp_in_nI (by omega) (by omega), fun c => ?_, fun c => ⟨vp_in_nI (by omega) (by omega), fun c2 => ?_, fun c2 => ⟨?_, rfl⟩⟩⟩⟩
      · rw [if_neg (by simp only [Bool.and_eq_true, decide_eq_true_eq]; exact fun q => i_nlt.mpr c q.1)] at he
        exact ih (i + 1) (by omega) he
      · rw [if_neg (by rw [c2]; simp)] at he
        exact ih (i + 1) (by omega) he
      · rw [he, if_pos (by simp only [Bool.and_eq_true, decide_eq_true_eq]; exact ⟨i_nle.mp c, c2⟩)]
  refine hK uX0_leastParadox 17 _ _ _ _ (vcX0_leastParadox_0 K _ μ ?_)
  exact loop 10 0 rfl rfl
set_option maxRecDepth 100000 in
theorem zX0_leastParadox (l : Launch) : ∀ (idx : Nat) (S : wS), gX0_leastParadox idx = some S → w_Call l 0 idx S 3 shX rfX 43 := by
  intro idx S hS
  unfold gX0_leastParadox at hS
  split at hS
  · cases hS
    exact w_callV (ci := 0) (mX0_beatsAll l) (by decide) rX0_beatsAll eX0_beatsAll.1 (by decide +kernel) eX0_beatsAll.2.1 eX0_beatsAll.2.2.1 eX0_beatsAll.2.2.2 (by decide +kernel) (by decide) (by decide)
  · cases hS
theorem mX0_leastParadox (l : Launch) : w_Met l yX0_leastParadox cX0_leastParadox 2 (some .int) 3 shX rfX 43 sX0_leastParadox.2.2.2.1 sX0_leastParadox.2.2.2.2 :=
  w_meth (o := 0) (Γ := gX0_leastParadox) (tb := tX0_leastParadox) (by decide +kernel) rfl kX0_leastParadox rfl (zX0_leastParadox l) (fun as μ h => by obtain ⟨rfl, h⟩ := h; exact Nat.le_of_ble_eq_true rfl) (fun as μ h K hK => by obtain ⟨rfl, h⟩ := h; exact vX0_leastParadox  μ h K hK)
set_option maxRecDepth 100000 in
theorem eX0_leastParadox : Cond.code yX0_leastParadox cX0_leastParadox 2 (some .int) ∈ w_tbl ∧ Cond.instanceMethod yX0_leastParadox ∈ w_tbl ∧ Cond.selects (w_C 0) yX0_leastParadox yX0_leastParadox ∈ w_tbl ∧ Cond.initialized yX0_leastParadox.cls ∈ w_tbl := ⟨by decide +kernel, by decide +kernel, by decide +kernel, by decide +kernel⟩
theorem rX0_leastParadox : ∀ as μ, sX0_leastParadox.2.2.2.1 as μ → ∃ q as', as = .ref q :: as' ∧ q < 43 ∧ shX q = .inl 0 := by
  intro as μ h
  obtain ⟨rfl, h⟩ := h
  exact ⟨_, _, rfl, by decide, rfl⟩

/-! X0_arePlacesAsLast -/
def pX0_arePlacesAsLast (μ : wM) : Prop := True
def qX0_arePlacesAsLast (μ : wM) (r : Int32) (μ' : wM) : Prop := r = (w_B01 (w_allB (fun j => decide (μ 19 j = μ 23 j)) 10)) ∧ μ' = μ
def sX0_arePlacesAsLast : wS := (false, false, 1, fun as μ => as = [.ref 3] ∧ pX0_arePlacesAsLast μ, fun as μ r μ' => match as with
  | [.ref _] => qX0_arePlacesAsLast μ r μ'
  | _ => False)
def gX0_arePlacesAsLast : Nat → Option wS := fun k => match k with
  | _ => none
def uX0_arePlacesAsLast : Nat → Option (List Nat) := fun j => match j with | 2 => some [] | _ => none
set_option maxHeartbeats 4000000 in
set_option maxRecDepth 100000 in
theorem vcX0_arePlacesAsLast_0 (K : wK) (R : Int32 → wM → Prop) (μ : wM) (h : K 2 [some (.ref 3), some (.int 0)] [] μ) : w_n 0 gX0_arePlacesAsLast shX rfX 43 (some .boolean) R tX0_arePlacesAsLast uX0_arePlacesAsLast K 16 0 [some (.ref 3), none] [] μ :=
  h
set_option maxHeartbeats 4000000 in
set_option maxRecDepth 100000 in
theorem vcX0_arePlacesAsLast_2 (K : wK) (R : Int32 → wM → Prop) (l1 : Int32) (μ : wM) (h : (
    (((10 : Int32) ≤ l1) → R 1 μ) ∧
    (¬ ((10 : Int32) ≤ l1) → (vp_in l1 10) ∧ (
      ((((μ 19 (l1 : Int32).toNatClampNeg) : Int32) = (μ 23 (l1 : Int32).toNatClampNeg)) → K 2 [some (.ref 3), some (.int (l1 + 1))] [] μ) ∧
      (¬ (((μ 19 (l1 : Int32).toNatClampNeg) : Int32) = (μ 23 (l1 : Int32).toNatClampNeg)) → R 0 μ))))) : w_n 0 gX0_arePlacesAsLast shX rfX 43 (some .boolean) R tX0_arePlacesAsLast uX0_arePlacesAsLast K 16 2 [some (.ref 3), some (.int l1)] [] μ :=
  And.intro (fun z639 => And.intro (Or.inr rfl) ((h.1 z639))) (fun z640 => And.intro (And.intro (of_decide_eq_true rfl) rfl) (And.intro (And.intro (of_decide_eq_true rfl) (Exists.intro _ (And.intro rfl ((h.2 z640).1)))) (And.intro (And.intro (of_decide_eq_true rfl) rfl) (And.intro (And.intro (of_decide_eq_true rfl) (Exists.intro _ (And.intro rfl ((h.2 z640).1)))) (And.intro (fun z641 => ((h.2 z640).2.1 z641)) (fun z642 => And.intro (Or.inl rfl) (((h.2 z640).2.2 z642))))))))
set_option maxHeartbeats 4000000 in
theorem vX0_arePlacesAsLast (μ : wM) (h : pX0_arePlacesAsLast μ) (K : wK) (hK : w_cl 0 gX0_arePlacesAsLast shX rfX 43 (some .boolean) (qX0_arePlacesAsLast μ) tX0_arePlacesAsLast K) : K 0 [some (.ref 3), none] [] μ := by
  unfold pX0_arePlacesAsLast at h
  have loop : ∀ (k i : Nat), i + k = 10 → (∀ o, o < i → μ 19 o = μ 23 o) → K 2 [some (.ref 3), some (.int (nI i))] [] μ := by
    intro k
    induction k with
    | zero =>
      intro i hi ha
      refine hK uX0_arePlacesAsLast 16 _ _ _ _ (vcX0_arePlacesAsLast_2 K _ (nI i) μ ?_)
      refine ⟨fun _ => ⟨w_B01_t ?_, rfl⟩, fun z => absurd (nI_le (a := 10) (by omega) (by omega)) z⟩
      exact w_allB_t.mpr (fun j hj => by simp [ha j (by omega)])
    | succ k ih =>
      intro i hi ha
      refine hK uX0_arePlacesAsLast 16 _ _ _ _ (vcX0_arePlacesAsLast_2 K _ (nI i) μ ?_)
      rw [nI_clamp (by omega), nI_1 i]
      refine ⟨fun z => absurd z (nI_ge (b := 10) (by omega) (by omega)), fun _ => ⟨vp_in_nI (by omega) (by omega), fun c => ?_, fun c => ⟨w_B01_f ?_, rfl⟩⟩⟩
      · exact ih (i + 1) (by omega) (fun o ho => by
          by_cases e : o = i
          · rw [e]; exact c
          · exact ha o (by omega))
      · intro z
        have z := w_allB_t.mp z i (by omega)
        simp [c] at z
  refine hK uX0_arePlacesAsLast 16 _ _ _ _ (vcX0_arePlacesAsLast_0 K _ μ ?_)
  exact loop 10 0 rfl (fun o ho => absurd ho (Nat.not_lt_zero _))
set_option maxRecDepth 100000 in
theorem zX0_arePlacesAsLast (l : Launch) : ∀ (idx : Nat) (S : wS), gX0_arePlacesAsLast idx = some S → w_Call l 0 idx S 1 shX rfX 43 := by
  intro idx S hS
  unfold gX0_arePlacesAsLast at hS
  split at hS
  · cases hS
theorem mX0_arePlacesAsLast (l : Launch) : w_Met l yX0_arePlacesAsLast cX0_arePlacesAsLast 2 (some .boolean) 1 shX rfX 43 sX0_arePlacesAsLast.2.2.2.1 sX0_arePlacesAsLast.2.2.2.2 :=
  w_meth (o := 0) (Γ := gX0_arePlacesAsLast) (tb := tX0_arePlacesAsLast) (by decide +kernel) rfl kX0_arePlacesAsLast rfl (zX0_arePlacesAsLast l) (fun as μ h => by obtain ⟨rfl, h⟩ := h; exact Nat.le_of_ble_eq_true rfl) (fun as μ h K hK => by obtain ⟨rfl, h⟩ := h; exact vX0_arePlacesAsLast  μ h K hK)
set_option maxRecDepth 100000 in
theorem eX0_arePlacesAsLast : Cond.code yX0_arePlacesAsLast cX0_arePlacesAsLast 2 (some .boolean) ∈ w_tbl ∧ Cond.instanceMethod yX0_arePlacesAsLast ∈ w_tbl ∧ Cond.selects (w_C 0) yX0_arePlacesAsLast yX0_arePlacesAsLast ∈ w_tbl ∧ Cond.initialized yX0_arePlacesAsLast.cls ∈ w_tbl := ⟨by decide +kernel, by decide +kernel, by decide +kernel, by decide +kernel⟩
theorem rX0_arePlacesAsLast : ∀ as μ, sX0_arePlacesAsLast.2.2.2.1 as μ → ∃ q as', as = .ref q :: as' ∧ q < 43 ∧ shX q = .inl 0 := by
  intro as μ h
  obtain ⟨rfl, h⟩ := h
  exact ⟨_, _, rfl, by decide, rfl⟩
