theorem w_IX.LV {μ : wM} (h : w_IX μ) {E : Nat} (hE : E < 8) : w_LV μ (E + 27) := by
  obtain ⟨h1, h2, h3, h4, h5, -⟩ := h
  intro i hi he
  obtain ⟨a1, e, he8, a2, a3⟩ := h5 i hi
  rw [h4 E hE, a2] at he
  have : e = E := (nI_eq (by omega) (by omega)).mp he
  subst this
  exact ⟨a1, a3⟩
theorem rd_ok {μ : wM} {e n : Int32} (h : w_IX μ) (z : w_hasB (μ 1 1) e = true) (zn : w_inB n 0 (μ 2 5) = true) : pX0_read (Int32.toNatClampNeg e + 27) n μ := by
  have he := has_in h.1 z
  obtain ⟨z1, z2⟩ := w_inB_t.mp zn
  exact ⟨(ev_ok he).1, (ev_ok he).2, by omega, h.2.1, z1, z2, h.LV (vp_in_lt he), h.2.2.1⟩
theorem rd_okc {μ : wM} {e : Int32} (h : w_IX μ) (he : vp_in e 8) : pX0_read (Int32.toNatClampNeg e + 27) (μ 2 5) μ := by
  obtain ⟨C, hC, hCn, -⟩ := vp_in_le h.2.1 (by decide)
  exact ⟨(ev_ok he).1, (ev_ok he).2, by omega, h.2.1, by rw [hCn]; exact nI_pos' (by omega), by rw [hCn]; exact nI_le (Nat.le_refl _) (by omega), h.LV (vp_in_lt he), h.2.2.1⟩
theorem mk_ok {x k : Int32} (hx : w_inB x 0 9 = true) (hk : w_inB k 0 5 = true) : vp_in (x * 6 + k) 60 := by
  obtain ⟨X, hX, rfl, -⟩ := vp_in_le (in9 hx) (by decide)
  obtain ⟨k, hK, rfl, -⟩ := vp_in_le (in_in (k := 5) (by decide) hk) (by decide)
  rw [ix6]
  exact vp_in_nI (by omega) (by omega)
theorem in50 {k : Int32} (hk : w_inB k 0 0 = true) : w_inB k 0 5 = true := by
  obtain ⟨k, hK, rfl, -⟩ := vp_in_le (in_in (k := 0) (by decide) hk) (by decide)
  rw [show k = 0 by omega]
  decide
theorem ty_ok1 {n : Int32} (z : w_inB n 1 8 = true) : 1 ≤ n ∧ n ≤ 8 := w_inB_t.mp z
theorem ty_ok2 {μ : wM} {n : Int32} (h : w_IX μ) (z : w_inB n 1 8 = true) (zf : decide (40 < μ 4 1 + n) = false) : vp_in (μ 4 1) 41 ∧ 1 ≤ n ∧ n ≤ 8 ∧ (μ 4 1).toNatClampNeg + n.toNatClampNeg ≤ 40 := by
  obtain ⟨z1, z2⟩ := w_inB_t.mp z
  obtain ⟨L, hL, hLn, hLc⟩ := vp_in_le h.2.2.2.2.2.1 (by decide)
  obtain ⟨N, hN, hNn⟩ : ∃ N : Nat, N ≤ 8 ∧ n = nI N := nI_of2 (M := 8) (n := 8) rfl (fun q => by
    have := i_le.mp z1
    have := i_lt.mp q
    have e1 : (1 : Int32).toInt = 1 := rfl
    have e0 : (0 : Int32).toInt = 0 := rfl
    omega) z2
  refine ⟨h.2.2.2.2.2.1, z1, z2, ?_⟩
  have zf := of_decide_eq_false zf
  rw [hLn, hNn, nI_add] at zf
  rw [hLc, hNn, nI_clamp (by omega)]
  rcases Nat.lt_or_ge 40 (L + N) with q | q
  · exact absurd (nI_lt (a := 40) q (by omega)) zf
  · exact q
theorem stp {s : Int32} (h : vp_in s 4) : Int32.toNatClampNeg s + 35 < 43 ∧ shX (Int32.toNatClampNeg s + 35) = .inl 5 ∧ True := ⟨(st_ok h).1, (st_ok h).2, trivial⟩
theorem stp2 {s : Int32} (h : vp_in s 4) : Int32.toNatClampNeg s + 35 < 43 ∧ shX (Int32.toNatClampNeg s + 35) = .inl 5 ∧ ∃ j, j < 4 ∧ Int32.toNatClampNeg s + 35 = j + 35 := ⟨(st_ok h).1, (st_ok h).2, _, vp_in_lt h, rfl⟩
def fX7_type (w : Int64) (n : Int32) (μ : wM) : Int32 × wM := (if (w_inB n 1 8) = true then (if (w_typ w (n : Int32).toNatClampNeg) = true then (if (decide (40 < μ 4 1 + n)) = true then ((-3), μ) else ((nI ((μ 4 1).toNatClampNeg + (n : Int32).toNatClampNeg)), (w_tp μ w (n : Int32).toNatClampNeg (μ 4 1).toNatClampNeg (n : Int32).toNatClampNeg))) else ((-1), μ)) else ((-1), μ))
/-! X7_type -/
def pX7_type (w : Int64) (n : Int32) (μ : wM) : Prop := w_IX μ
def qX7_type (w : Int64) (n : Int32) (μ : wM) (r : Int32) (μ' : wM) : Prop := r = (fX7_type w n μ).1 ∧ μ' = (fX7_type w n μ).2
def sX7_type : wS := (false, false, 3, fun as μ => ∃ w, ∃ n, as = [.ref 0, .long w, .int n] ∧ pX7_type w n μ, fun as μ r μ' => match as with
  | [.ref _, .long w, .int n] => qX7_type w n μ r μ'
  | _ => False)
def gX7_type : Nat → Option wS := fun k => match k with
  | 55 => some sX7_within
  | 202 => some sX6_isTypable
  | 206 => some sX6_isFullFor
  | 207 => some sX6_add
  | _ => none
def uX7_type : Nat → Option (List Nat) := fun _ => none
set_option maxHeartbeats 4000000 in
set_option maxRecDepth 100000 in
theorem vcX7_type_0 (K : wK) (R : Int32 → wM → Prop) (w : Int64) (n : Int32) (μ : wM) (h : (
    ((w_inB n 1 8) = false → R (-1) μ) ∧
    ((w_inB n 1 8) = true → pX6_isTypable w n μ ∧ (
      ((w_typ w (n : Int32).toNatClampNeg) = false → R (-1) μ) ∧
      ((w_typ w (n : Int32).toNatClampNeg) = true → (
        ((decide (40 < μ 4 1 + n)) = false → pX6_add w n μ ∧ R (nI ((μ 4 1).toNatClampNeg + (n : Int32).toNatClampNeg)) (w_tp μ w (n : Int32).toNatClampNeg (μ 4 1).toNatClampNeg (n : Int32).toNatClampNeg)) ∧
        ((decide (40 < μ 4 1 + n)) = true → R (-3) μ))))))) : w_n 7 gX7_type shX rfX 43 (some .int) R tX7_type uX7_type K 21 0 [some (.ref 0), some (.long w), none, some (.int n)] [] μ :=
  And.intro (Exists.intro _ (Exists.intro _ (Exists.intro _ (And.intro rfl (trivial))))) (fun _ _ z981 => by obtain ⟨z979, z980⟩ := z981; have z979 := z979.symm; have z980 := z980.symm; subst z979; subst z980; exact And.intro (fun z982 => And.intro trivial ((h.1 (w_B01_0.mp z982)))) (fun z983 => And.intro (Exists.intro _ (Exists.intro _ (And.intro rfl ((h.2 (w_B01_n.mp z983)).1)))) (fun _ _ z986 => by obtain ⟨z984, z985⟩ := z986; have z984 := z984.symm; have z985 := z985.symm; subst z984; subst z985; exact And.intro (fun z987 => And.intro trivial (((h.2 (w_B01_n.mp z983)).2.1 (w_B01_0.mp z987)))) (fun z988 => And.intro (And.intro (of_decide_eq_true rfl) rfl) (And.intro (Exists.intro _ (And.intro rfl (trivial))) (fun _ _ z991 => by obtain ⟨z989, z990⟩ := z991; have z989 := z989.symm; have z990 := z990.symm; subst z989; subst z990; exact And.intro (fun z992 => And.intro (And.intro (of_decide_eq_true rfl) rfl) (And.intro (Exists.intro _ (Exists.intro _ (And.intro rfl ((((h.2 (w_B01_n.mp z983)).2.2 (w_B01_n.mp z988)).1 (w_B01_0.mp z992)).1)))) (fun _ _ z996 => by obtain ⟨z994, z995⟩ := z996; have z994 := z994.symm; have z995 := z995.symm; subst z994; subst z995; exact And.intro trivial ((((h.2 (w_B01_n.mp z983)).2.2 (w_B01_n.mp z988)).1 (w_B01_0.mp z992)).2)))) (fun z993 => And.intro trivial ((((h.2 (w_B01_n.mp z983)).2.2 (w_B01_n.mp z988)).2 (w_B01_n.mp z993))))))))))
set_option maxHeartbeats 4000000 in
theorem vX7_type (w : Int64) (n : Int32) (μ : wM) (h : pX7_type w n μ) (K : wK) (hK : w_cl 7 gX7_type shX rfX 43 (some .int) (qX7_type w n μ) tX7_type K) : K 0 [some (.ref 0), some (.long w), none, some (.int n)] [] μ := by
  refine hK uX7_type 21 _ _ _ _ (vcX7_type_0 K _ w n μ ?_)
  clear hK
  unfold pX7_type at h
  have h0 := h
  unfold w_IX at h
  refine And.intro (fun z34 => ?_) (fun z34 => ?_)
  · unfold qX7_type fX7_type
    rw [if_neg (by rw [z34]; exact Bool.false_ne_true)]
    exact ⟨rfl, rfl⟩
  · refine And.intro (by exact ty_ok1 (by assumption)) ?_
    refine And.intro (fun z35 => ?_) (fun z35 => ?_)
    · unfold qX7_type fX7_type
      rw [if_pos z34, if_neg (by rw [z35]; exact Bool.false_ne_true)]
      exact ⟨rfl, rfl⟩
    · refine And.intro (fun z36 => ?_) (fun z36 => ?_)
      · refine And.intro (by exact ty_ok2 h0 (by assumption) (by assumption)) ?_
        unfold qX7_type fX7_type
        rw [if_pos z34, if_pos z35, if_neg (by rw [z36]; exact Bool.false_ne_true)]
        exact ⟨rfl, rfl⟩
      · unfold qX7_type fX7_type
        rw [if_pos z34, if_pos z35, if_pos z36]
        exact ⟨rfl, rfl⟩
set_option maxRecDepth 100000 in
theorem zX7_type (l : Launch) : ∀ (idx : Nat) (S : wS), gX7_type idx = some S → w_Call l 7 idx S 3 shX rfX 43 := by
  intro idx S hS
  unfold gX7_type at hS
  split at hS
  · cases hS
    exact w_callS (mX7_within l) eX7_within.1 (by decide +kernel) eX7_within.2.1 eX7_within.2.2 (by decide +kernel) (by decide) (by decide)
  · cases hS
    exact w_callS (mX6_isTypable l) eX6_isTypable.1 (by decide +kernel) eX6_isTypable.2.1 eX6_isTypable.2.2 (by decide +kernel) (by decide) (by decide)
  · cases hS
    exact w_callV (ci := 6) (mX6_isFullFor l) (by decide) rX6_isFullFor eX6_isFullFor.1 (by decide +kernel) eX6_isFullFor.2.1 eX6_isFullFor.2.2.1 eX6_isFullFor.2.2.2 (by decide +kernel) (by decide) (by decide)
  · cases hS
    exact w_callV (ci := 6) (mX6_add l) (by decide) rX6_add eX6_add.1 (by decide +kernel) eX6_add.2.1 eX6_add.2.2.1 eX6_add.2.2.2 (by decide +kernel) (by decide) (by decide)
  · cases hS
theorem mX7_type (l : Launch) : w_Met l yX7_type cX7_type 4 (some .int) 3 shX rfX 43 sX7_type.2.2.2.1 sX7_type.2.2.2.2 :=
  w_meth (o := 7) (Γ := gX7_type) (tb := tX7_type) (by decide +kernel) rfl kX7_type rfl (zX7_type l) (fun as μ h => by obtain ⟨w, n, rfl, h⟩ := h; exact Nat.le_of_ble_eq_true rfl) (fun as μ h K hK => by obtain ⟨w, n, rfl, h⟩ := h; exact vX7_type w n μ h K hK)
set_option maxRecDepth 100000 in
theorem eX7_type : Cond.code yX7_type cX7_type 4 (some .int) ∈ w_tbl ∧ Cond.instanceMethod yX7_type ∈ w_tbl ∧ Cond.selects (w_C 7) yX7_type yX7_type ∈ w_tbl ∧ Cond.initialized yX7_type.cls ∈ w_tbl := ⟨by decide +kernel, by decide +kernel, by decide +kernel, by decide +kernel⟩
theorem rX7_type : ∀ as μ, sX7_type.2.2.2.1 as μ → ∃ q as', as = .ref q :: as' ∧ q < 43 ∧ shX q = .inl 7 := by
  intro as μ h
  obtain ⟨w, n, rfl, h⟩ := h
  exact ⟨_, _, rfl, by decide, rfl⟩

def fX7_sheet (s : Int32) (a : Int32) (n : Int32) (μ : wM) : Int32 × wM := (if (w_inB s 0 3) = true then (if (w_inB a 0 2) = true then (if ((n : Int32) ≤ 60) then (if ((0 : Int32) ≤ n) then ((n), (w_fill (w_up (w_up (w_up μ (Int32.toNatClampNeg s + 35) 1 1) (Int32.toNatClampNeg s + 35) 2 a) (Int32.toNatClampNeg s + 35) 3 n) ((Int32.toNatClampNeg s + 35) + 4) 60 0)) else ((-14), μ)) else ((-1), μ)) else ((-1), μ)) else ((-1), μ))
/-! X7_sheet -/
def pX7_sheet (s : Int32) (a : Int32) (n : Int32) (μ : wM) : Prop := w_IX μ
def qX7_sheet (s : Int32) (a : Int32) (n : Int32) (μ : wM) (r : Int32) (μ' : wM) : Prop := r = (fX7_sheet s a n μ).1 ∧ μ' = (fX7_sheet s a n μ).2
def sX7_sheet : wS := (false, false, 4, fun as μ => ∃ s, ∃ a, ∃ n, as = [.ref 0, .int s, .int a, .int n] ∧ pX7_sheet s a n μ, fun as μ r μ' => match as with
  | [.ref _, .int s, .int a, .int n] => qX7_sheet s a n μ r μ'
  | _ => False)
def gX7_sheet : Nat → Option wS := fun k => match k with
  | 150 => some sX7_isSheet
  | 153 => some sX7_isLane
  | 231 => some sX5_hold
  | _ => none
def uX7_sheet : Nat → Option (List Nat) := fun _ => none
set_option maxHeartbeats 4000000 in
set_option maxRecDepth 100000 in
theorem vcX7_sheet_0 (K : wK) (R : Int32 → wM → Prop) (s : Int32) (a : Int32) (n : Int32) (μ : wM) (h : (
    ((w_inB s 0 3) = false → R (-1) μ) ∧
    ((w_inB s 0 3) = true → (
      ((w_inB a 0 2) = false → R (-1) μ) ∧
      ((w_inB a 0 2) = true → (
        (((n : Int32) ≤ 60) → (
          (((0 : Int32) ≤ n) → (vp_in s 4) ∧ pX5_hold (Int32.toNatClampNeg s + 35) a n μ ∧ R (n) (w_fill (w_up (w_up (w_up μ (Int32.toNatClampNeg s + 35) 1 1) (Int32.toNatClampNeg s + 35) 2 a) (Int32.toNatClampNeg s + 35) 3 n) ((Int32.toNatClampNeg s + 35) + 4) 60 0)) ∧
          (¬ ((0 : Int32) ≤ n) → R (-14) μ))) ∧
        (¬ ((n : Int32) ≤ 60) → R (-1) μ))))))) : w_n 7 gX7_sheet shX rfX 43 (some .int) R tX7_sheet uX7_sheet K 20 0 [some (.ref 0), some (.int s), some (.int a), some (.int n)] [] μ :=
  And.intro (Exists.intro _ (And.intro rfl (trivial))) (fun _ _ z1016 => by obtain ⟨z1014, z1015⟩ := z1016; have z1014 := z1014.symm; have z1015 := z1015.symm; subst z1014; subst z1015; exact And.intro (fun z1017 => And.intro trivial ((h.1 (w_B01_0.mp z1017)))) (fun z1018 => And.intro (Exists.intro _ (And.intro rfl (trivial))) (fun _ _ z1021 => by obtain ⟨z1019, z1020⟩ := z1021; have z1019 := z1019.symm; have z1020 := z1020.symm; subst z1019; subst z1020; exact And.intro (fun z1022 => And.intro trivial (((h.2 (w_B01_n.mp z1018)).1 (w_B01_0.mp z1022)))) (fun z1023 => And.intro (fun z1024 => And.intro (fun z1026 => And.intro (And.intro (of_decide_eq_true rfl) rfl) (And.intro (Or.inr (And.intro (of_decide_eq_true rfl) (Exists.intro _ (And.intro rfl (((((h.2 (w_B01_n.mp z1018)).2 (w_B01_n.mp z1023)).1 z1024).1 z1026).1))))) (And.intro (Exists.intro _ (Exists.intro _ (Exists.intro _ (And.intro rfl (((((h.2 (w_B01_n.mp z1018)).2 (w_B01_n.mp z1023)).1 z1024).1 z1026).2.1))))) (fun _ _ z1030 => by obtain ⟨z1028, z1029⟩ := z1030; have z1028 := z1028.symm; have z1029 := z1029.symm; subst z1028; subst z1029; exact And.intro trivial (((((h.2 (w_B01_n.mp z1018)).2 (w_B01_n.mp z1023)).1 z1024).1 z1026).2.2))))) (fun z1027 => And.intro trivial (((((h.2 (w_B01_n.mp z1018)).2 (w_B01_n.mp z1023)).1 z1024).2 z1027)))) (fun z1025 => And.intro trivial ((((h.2 (w_B01_n.mp z1018)).2 (w_B01_n.mp z1023)).2 z1025)))))))
set_option maxHeartbeats 4000000 in
theorem vX7_sheet (s : Int32) (a : Int32) (n : Int32) (μ : wM) (h : pX7_sheet s a n μ) (K : wK) (hK : w_cl 7 gX7_sheet shX rfX 43 (some .int) (qX7_sheet s a n μ) tX7_sheet K) : K 0 [some (.ref 0), some (.int s), some (.int a), some (.int n)] [] μ := by
  refine hK uX7_sheet 20 _ _ _ _ (vcX7_sheet_0 K _ s a n μ ?_)
  clear hK
  unfold pX7_sheet at h
  have h0 := h
  unfold w_IX at h
  refine And.intro (fun z37 => ?_) (fun z37 => ?_)
  · unfold qX7_sheet fX7_sheet
    rw [if_neg (by rw [z37]; exact Bool.false_ne_true)]
    exact ⟨rfl, rfl⟩
  · refine And.intro (fun z38 => ?_) (fun z38 => ?_)
    · unfold qX7_sheet fX7_sheet
      rw [if_pos z37, if_neg (by rw [z38]; exact Bool.false_ne_true)]
      exact ⟨rfl, rfl⟩
    · refine And.intro (fun z39 => ?_) (fun z39 => ?_)
      · refine And.intro (fun z40 => ?_) (fun z40 => ?_)
        · refine And.intro (by exact in3 (by assumption)) ?_
          refine And.intro (by exact stp2 (in3 (by assumption))) ?_
          unfold qX7_sheet fX7_sheet
          rw [if_pos z37, if_pos z38, if_pos z39, if_pos z40]
          exact ⟨rfl, rfl⟩
        · unfold qX7_sheet fX7_sheet
          rw [if_pos z37, if_pos z38, if_pos z39, if_neg z40]
          exact ⟨rfl, rfl⟩
      · unfold qX7_sheet fX7_sheet
        rw [if_pos z37, if_pos z38, if_neg z39]
        exact ⟨rfl, rfl⟩
set_option maxRecDepth 100000 in
theorem zX7_sheet (l : Launch) : ∀ (idx : Nat) (S : wS), gX7_sheet idx = some S → w_Call l 7 idx S 3 shX rfX 43 := by
  intro idx S hS
  unfold gX7_sheet at hS
  split at hS
  · cases hS
    exact w_callS (mX7_isSheet l) eX7_isSheet.1 (by decide +kernel) eX7_isSheet.2.1 eX7_isSheet.2.2 (by decide +kernel) (by decide) (by decide)
  · cases hS
    exact w_callS (mX7_isLane l) eX7_isLane.1 (by decide +kernel) eX7_isLane.2.1 eX7_isLane.2.2 (by decide +kernel) (by decide) (by decide)
  · cases hS
    exact w_callV (ci := 5) (mX5_hold l) (by decide) rX5_hold eX5_hold.1 (by decide +kernel) eX5_hold.2.1 eX5_hold.2.2.1 eX5_hold.2.2.2 (by decide +kernel) (by decide) (by decide)
  · cases hS
theorem mX7_sheet (l : Launch) : w_Met l yX7_sheet cX7_sheet 4 (some .int) 3 shX rfX 43 sX7_sheet.2.2.2.1 sX7_sheet.2.2.2.2 :=
  w_meth (o := 7) (Γ := gX7_sheet) (tb := tX7_sheet) (by decide +kernel) rfl kX7_sheet rfl (zX7_sheet l) (fun as μ h => by obtain ⟨s, a, n, rfl, h⟩ := h; exact Nat.le_of_ble_eq_true rfl) (fun as μ h K hK => by obtain ⟨s, a, n, rfl, h⟩ := h; exact vX7_sheet s a n μ h K hK)
set_option maxRecDepth 100000 in
theorem eX7_sheet : Cond.code yX7_sheet cX7_sheet 4 (some .int) ∈ w_tbl ∧ Cond.instanceMethod yX7_sheet ∈ w_tbl ∧ Cond.selects (w_C 7) yX7_sheet yX7_sheet ∈ w_tbl ∧ Cond.initialized yX7_sheet.cls ∈ w_tbl := ⟨by decide +kernel, by decide +kernel, by decide +kernel, by decide +kernel⟩
theorem rX7_sheet : ∀ as μ, sX7_sheet.2.2.2.1 as μ → ∃ q as', as = .ref q :: as' ∧ q < 43 ∧ shX q = .inl 7 := by
  intro as μ h
  obtain ⟨s, a, n, rfl, h⟩ := h
  exact ⟨_, _, rfl, by decide, rfl⟩

def fX7_drop (s : Int32) (μ : wM) : Int32 × wM := (if (w_inB s 0 3) = true then (if (((μ (Int32.toNatClampNeg s + 35) 1) : Int32) = 0) then ((-11), μ) else ((μ (Int32.toNatClampNeg s + 35) 3), (w_up μ (Int32.toNatClampNeg s + 35) 1 0))) else ((-1), μ))
/-! X7_drop -/
def pX7_drop (s : Int32) (μ : wM) : Prop := w_IX μ
def qX7_drop (s : Int32) (μ : wM) (r : Int32) (μ' : wM) : Prop := r = (fX7_drop s μ).1 ∧ μ' = (fX7_drop s μ).2
def sX7_drop : wS := (false, false, 2, fun as μ => ∃ s, as = [.ref 0, .int s] ∧ pX7_drop s μ, fun as μ r μ' => match as with
  | [.ref _, .int s] => qX7_drop s μ r μ'
  | _ => False)
def gX7_drop : Nat → Option wS := fun k => match k with
  | 150 => some sX7_isSheet
  | 237 => some sX5_let
  | _ => none
def uX7_drop : Nat → Option (List Nat) := fun _ => none
set_option maxHeartbeats 4000000 in
set_option maxRecDepth 100000 in
theorem vcX7_drop_0 (K : wK) (R : Int32 → wM → Prop) (s : Int32) (μ : wM) (h : (
    ((w_inB s 0 3) = false → R (-1) μ) ∧
    ((w_inB s 0 3) = true → (vp_in s 4) ∧ (
      ((((μ (Int32.toNatClampNeg s + 35) 1) : Int32) = 0) → R (-11) μ) ∧
      (¬ (((μ (Int32.toNatClampNeg s + 35) 1) : Int32) = 0) → pX5_let (Int32.toNatClampNeg s + 35) μ ∧ R (μ (Int32.toNatClampNeg s + 35) 3) (w_up μ (Int32.toNatClampNeg s + 35) 1 0)))))) : w_n 7 gX7_drop shX rfX 43 (some .int) R tX7_drop uX7_drop K 17 0 [some (.ref 0), some (.int s)] [] μ :=
  And.intro (Exists.intro _ (And.intro rfl (trivial))) (fun _ _ z1043 => by obtain ⟨z1041, z1042⟩ := z1043; have z1041 := z1041.symm; have z1042 := z1042.symm; subst z1041; subst z1042; exact And.intro (fun z1044 => And.intro trivial ((h.1 (w_B01_0.mp z1044)))) (fun z1045 => And.intro (And.intro (of_decide_eq_true rfl) rfl) (And.intro (Or.inr (And.intro (of_decide_eq_true rfl) (Exists.intro _ (And.intro rfl ((h.2 (w_B01_n.mp z1045)).1))))) (And.intro (st_ok ((h.2 (w_B01_n.mp z1045)).1)) (And.intro (fun z1046 => And.intro trivial (((h.2 (w_B01_n.mp z1045)).2.1 z1046))) (fun z1047 => And.intro (And.intro (of_decide_eq_true rfl) rfl) (And.intro (Or.inr (And.intro (of_decide_eq_true rfl) (Exists.intro _ (And.intro rfl ((h.2 (w_B01_n.mp z1045)).1))))) (And.intro (Exists.intro _ (And.intro rfl (((h.2 (w_B01_n.mp z1045)).2.2 z1047).1))) (fun _ _ z1050 => by obtain ⟨z1048, z1049⟩ := z1050; have z1048 := z1048.symm; have z1049 := z1049.symm; subst z1048; subst z1049; exact And.intro trivial (((h.2 (w_B01_n.mp z1045)).2.2 z1047).2))))))))))
set_option maxHeartbeats 4000000 in
theorem vX7_drop (s : Int32) (μ : wM) (h : pX7_drop s μ) (K : wK) (hK : w_cl 7 gX7_drop shX rfX 43 (some .int) (qX7_drop s μ) tX7_drop K) : K 0 [some (.ref 0), some (.int s)] [] μ := by
  refine hK uX7_drop 17 _ _ _ _ (vcX7_drop_0 K _ s μ ?_)
  clear hK
  unfold pX7_drop at h
  have h0 := h
  unfold w_IX at h
  refine And.intro (fun z41 => ?_) (fun z41 => ?_)
  · unfold qX7_drop fX7_drop
    rw [if_neg (by rw [z41]; exact Bool.false_ne_true)]
    exact ⟨rfl, rfl⟩
  · refine And.intro (by exact in3 (by assumption)) ?_
    refine And.intro (fun z42 => ?_) (fun z42 => ?_)
    · unfold qX7_drop fX7_drop
      rw [if_pos z41, if_pos z42]
      exact ⟨rfl, rfl⟩
    · refine And.intro (by exact stp (in3 (by assumption))) ?_
      unfold qX7_drop fX7_drop
      rw [if_pos z41, if_neg z42]
      exact ⟨rfl, rfl⟩
set_option maxRecDepth 100000 in
theorem zX7_drop (l : Launch) : ∀ (idx : Nat) (S : wS), gX7_drop idx = some S → w_Call l 7 idx S 3 shX rfX 43 := by
  intro idx S hS
  unfold gX7_drop at hS
  split at hS
  · cases hS
    exact w_callS (mX7_isSheet l) eX7_isSheet.1 (by decide +kernel) eX7_isSheet.2.1 eX7_isSheet.2.2 (by decide +kernel) (by decide) (by decide)
  · cases hS
    exact w_callV (ci := 5) (mX5_let l) (by decide) rX5_let eX5_let.1 (by decide +kernel) eX5_let.2.1 eX5_let.2.2.1 eX5_let.2.2.2 (by decide +kernel) (by decide) (by decide)
  · cases hS
theorem mX7_drop (l : Launch) : w_Met l yX7_drop cX7_drop 2 (some .int) 3 shX rfX 43 sX7_drop.2.2.2.1 sX7_drop.2.2.2.2 :=
  w_meth (o := 7) (Γ := gX7_drop) (tb := tX7_drop) (by decide +kernel) rfl kX7_drop rfl (zX7_drop l) (fun as μ h => by obtain ⟨s, rfl, h⟩ := h; exact Nat.le_of_ble_eq_true rfl) (fun as μ h K hK => by obtain ⟨s, rfl, h⟩ := h; exact vX7_drop s μ h K hK)
set_option maxRecDepth 100000 in
theorem eX7_drop : Cond.code yX7_drop cX7_drop 2 (some .int) ∈ w_tbl ∧ Cond.instanceMethod yX7_drop ∈ w_tbl ∧ Cond.selects (w_C 7) yX7_drop yX7_drop ∈ w_tbl ∧ Cond.initialized yX7_drop.cls ∈ w_tbl := ⟨by decide +kernel, by decide +kernel, by decide +kernel, by decide +kernel⟩
theorem rX7_drop : ∀ as μ, sX7_drop.2.2.2.1 as μ → ∃ q as', as = .ref q :: as' ∧ q < 43 ∧ shX q = .inl 7 := by
  intro as μ h
  obtain ⟨s, rfl, h⟩ := h
  exact ⟨_, _, rfl, by decide, rfl⟩
