def fX7_mark (e : Int32) (x : Int32) (n : Int32) (k : Int32) (μ : wM) : Int32 × wM := (if (w_hasB (μ 1 1) e) = true then (if (w_inB x 0 9) = true then (if (w_inB n 0 (μ 2 5)) = true then (if (((μ (Int32.toNatClampNeg e + 27) 1) : Int32) = 0) then (if (w_inB k 0 5) = true then (if (decide (0 < (w_aft μ (Int32.toNatClampNeg e + 27) (n : Int32).toNatClampNeg) 21 (x : Int32).toNatClampNeg)) = true then (((w_aft μ (Int32.toNatClampNeg e + 27) (n : Int32).toNatClampNeg) 20 (x * 6 + k).toNatClampNeg), (w_aft μ (Int32.toNatClampNeg e + 27) (n : Int32).toNatClampNeg)) else ((-2), (w_aft μ (Int32.toNatClampNeg e + 27) (n : Int32).toNatClampNeg))) else ((-1), μ)) else (if (w_inB k 0 0) = true then (if (decide (0 < (w_aft μ (Int32.toNatClampNeg e + 27) (n : Int32).toNatClampNeg) 21 (x : Int32).toNatClampNeg)) = true then (((w_aft μ (Int32.toNatClampNeg e + 27) (n : Int32).toNatClampNeg) 20 (x * 6 + k).toNatClampNeg), (w_aft μ (Int32.toNatClampNeg e + 27) (n : Int32).toNatClampNeg)) else ((-2), (w_aft μ (Int32.toNatClampNeg e + 27) (n : Int32).toNatClampNeg))) else ((-1), μ))) else ((-1), μ)) else ((-1), μ)) else ((-1), μ))
/-! X7_mark -/
def pX7_mark (e : Int32) (x : Int32) (n : Int32) (k : Int32) (μ : wM) : Prop := w_IX μ
def qX7_mark (e : Int32) (x : Int32) (n : Int32) (k : Int32) (μ : wM) (r : Int32) (μ' : wM) : Prop := r = (fX7_mark e x n k μ).1 ∧ μ' = (fX7_mark e x n k μ).2
def sX7_mark : wS := (false, false, 5, fun as μ => ∃ e, ∃ x, ∃ n, ∃ k, as = [.ref 0, .int e, .int x, .int n, .int k] ∧ pX7_mark e x n k μ, fun as μ r μ' => match as with
  | [.ref _, .int e, .int x, .int n, .int k] => qX7_mark e x n k μ r μ'
  | _ => False)
def gX7_mark : Nat → Option wS := fun k => match k with
  | 55 => some sX7_within
  | 67 => some sX3_has
  | 71 => some sX7_isMan
  | 172 => some sX7_isAsOf
  | 175 => some sX0_read
  | 179 => some sX0_hasMark
  | 182 => some sX0_markOf
  | _ => none
def uX7_mark : Nat → Option (List Nat) := fun _ => none
set_option maxHeartbeats 4000000 in
set_option maxRecDepth 100000 in
theorem vcX7_mark_0 (K : wK) (R : Int32 → wM → Prop) (e : Int32) (x : Int32) (n : Int32) (k : Int32) (μ : wM) (h : (
    ((w_hasB (μ 1 1) e) = false → R (-1) μ) ∧
    ((w_hasB (μ 1 1) e) = true → (
      ((w_inB x 0 9) = false → R (-1) μ) ∧
      ((w_inB x 0 9) = true → (
        ((w_inB n 0 (μ 2 5)) = false → R (-1) μ) ∧
        ((w_inB n 0 (μ 2 5)) = true → (vp_in e 8) ∧ (
          ((((μ (Int32.toNatClampNeg e + 27) 1) : Int32) = 0) → (
            ((w_inB k 0 5) = false → R (-1) μ) ∧
            ((w_inB k 0 5) = true → pX0_read (Int32.toNatClampNeg e + 27) n μ ∧ pX0_hasMark x (w_aft μ (Int32.toNatClampNeg e + 27) (n : Int32).toNatClampNeg) ∧ (
              ((decide (0 < (w_aft μ (Int32.toNatClampNeg e + 27) (n : Int32).toNatClampNeg) 21 (x : Int32).toNatClampNeg)) = false → R (-2) (w_aft μ (Int32.toNatClampNeg e + 27) (n : Int32).toNatClampNeg)) ∧
              ((decide (0 < (w_aft μ (Int32.toNatClampNeg e + 27) (n : Int32).toNatClampNeg) 21 (x : Int32).toNatClampNeg)) = true → pX0_markOf x k (w_aft μ (Int32.toNatClampNeg e + 27) (n : Int32).toNatClampNeg) ∧ R ((w_aft μ (Int32.toNatClampNeg e + 27) (n : Int32).toNatClampNeg) 20 (x * 6 + k).toNatClampNeg) (w_aft μ (Int32.toNatClampNeg e + 27) (n : Int32).toNatClampNeg)))))) ∧
          (¬ (((μ (Int32.toNatClampNeg e + 27) 1) : Int32) = 0) → (
            ((w_inB k 0 0) = false → R (-1) μ) ∧
            ((w_inB k 0 0) = true → pX0_read (Int32.toNatClampNeg e + 27) n μ ∧ pX0_hasMark x (w_aft μ (Int32.toNatClampNeg e + 27) (n : Int32).toNatClampNeg) ∧ (
              ((decide (0 < (w_aft μ (Int32.toNatClampNeg e + 27) (n : Int32).toNatClampNeg) 21 (x : Int32).toNatClampNeg)) = false → R (-2) (w_aft μ (Int32.toNatClampNeg e + 27) (n : Int32).toNatClampNeg)) ∧
              ((decide (0 < (w_aft μ (Int32.toNatClampNeg e + 27) (n : Int32).toNatClampNeg) 21 (x : Int32).toNatClampNeg)) = true → pX0_markOf x k (w_aft μ (Int32.toNatClampNeg e + 27) (n : Int32).toNatClampNeg) ∧ R ((w_aft μ (Int32.toNatClampNeg e + 27) (n : Int32).toNatClampNeg) 20 (x * 6 + k).toNatClampNeg) (w_aft μ (Int32.toNatClampNeg e + 27) (n : Int32).toNatClampNeg)))))))))))))) : w_n 7 gX7_mark shX rfX 43 (some .int) R tX7_mark uX7_mark K 47 0 [some (.ref 0), some (.int e), some (.int x), some (.int n), some (.int k), none] [] μ :=
  And.intro (And.intro (of_decide_eq_true rfl) rfl) (And.intro (Exists.intro _ (And.intro rfl (trivial))) (fun _ _ z1102 => by obtain ⟨z1100, z1101⟩ := z1102; have z1100 := z1100.symm; have z1101 := z1101.symm; subst z1100; subst z1101; exact And.intro (fun z1103 => And.intro trivial ((h.1 (w_B01_0.mp z1103)))) (fun z1104 => And.intro (Exists.intro _ (And.intro rfl (trivial))) (fun _ _ z1107 => by obtain ⟨z1105, z1106⟩ := z1107; have z1105 := z1105.symm; have z1106 := z1106.symm; subst z1105; subst z1106; exact And.intro (fun z1108 => And.intro trivial (((h.2 (w_B01_n.mp z1104)).1 (w_B01_0.mp z1108)))) (fun z1109 => And.intro (Exists.intro _ (And.intro rfl (trivial))) (fun _ _ z1112 => by obtain ⟨z1110, z1111⟩ := z1112; have z1110 := z1110.symm; have z1111 := z1111.symm; subst z1110; subst z1111; exact And.intro (fun z1113 => And.intro trivial ((((h.2 (w_B01_n.mp z1104)).2 (w_B01_n.mp z1109)).1 (w_B01_0.mp z1113)))) (fun z1114 => And.intro (And.intro (of_decide_eq_true rfl) rfl) (And.intro (And.intro (of_decide_eq_true rfl) rfl) (And.intro (Or.inl (And.intro (of_decide_eq_true rfl) (Exists.intro _ (And.intro rfl ((((h.2 (w_B01_n.mp z1104)).2 (w_B01_n.mp z1109)).2 (w_B01_n.mp z1114)).1))))) (And.intro (ev_ok ((((h.2 (w_B01_n.mp z1104)).2 (w_B01_n.mp z1109)).2 (w_B01_n.mp z1114)).1)) (And.intro (fun z1115 => And.intro (Exists.intro _ (Exists.intro _ (Exists.intro _ (And.intro rfl (trivial))))) (fun _ _ z1119 => by obtain ⟨z1117, z1118⟩ := z1119; have z1117 := z1117.symm; have z1118 := z1118.symm; subst z1117; subst z1118; exact And.intro (fun z1120 => And.intro trivial ((((((h.2 (w_B01_n.mp z1104)).2 (w_B01_n.mp z1109)).2 (w_B01_n.mp z1114)).2.1 z1115).1 (w_B01_0.mp z1120)))) (fun z1121 => And.intro (And.intro (of_decide_eq_true rfl) rfl) (And.intro (And.intro (of_decide_eq_true rfl) rfl) (And.intro (Exists.intro _ (Exists.intro _ (And.intro rfl ((((((h.2 (w_B01_n.mp z1104)).2 (w_B01_n.mp z1109)).2 (w_B01_n.mp z1114)).2.1 z1115).2 (w_B01_n.mp z1121)).1)))) (fun _ _ z1124 => by have z1123 := ((z1124).1).symm; subst z1123; exact And.intro (And.intro (of_decide_eq_true rfl) rfl) (And.intro (Exists.intro _ (And.intro rfl ((((((h.2 (w_B01_n.mp z1104)).2 (w_B01_n.mp z1109)).2 (w_B01_n.mp z1114)).2.1 z1115).2 (w_B01_n.mp z1121)).2.1))) (fun _ _ z1127 => by obtain ⟨z1125, z1126⟩ := z1127; have z1125 := z1125.symm; have z1126 := z1126.symm; subst z1125; subst z1126; exact And.intro (fun z1128 => And.intro trivial (((((((h.2 (w_B01_n.mp z1104)).2 (w_B01_n.mp z1109)).2 (w_B01_n.mp z1114)).2.1 z1115).2 (w_B01_n.mp z1121)).2.2.1 (w_B01_0.mp z1128)))) (fun z1129 => And.intro (And.intro (of_decide_eq_true rfl) rfl) (And.intro (Exists.intro _ (Exists.intro _ (And.intro rfl (((((((h.2 (w_B01_n.mp z1104)).2 (w_B01_n.mp z1109)).2 (w_B01_n.mp z1114)).2.1 z1115).2 (w_B01_n.mp z1121)).2.2.2 (w_B01_n.mp z1129)).1)))) (fun _ _ z1132 => by obtain ⟨z1130, z1131⟩ := z1132; have z1130 := z1130.symm; have z1131 := z1131.symm; subst z1130; subst z1131; exact And.intro trivial (((((((h.2 (w_B01_n.mp z1104)).2 (w_B01_n.mp z1109)).2 (w_B01_n.mp z1114)).2.1 z1115).2 (w_B01_n.mp z1121)).2.2.2 (w_B01_n.mp z1129)).2)))))))))))) (fun z1116 => And.intro (Exists.intro _ (Exists.intro _ (Exists.intro _ (And.intro rfl (trivial))))) (fun _ _ z1135 => by obtain ⟨z1133, z1134⟩ := z1135; have z1133 := z1133.symm; have z1134 := z1134.symm; subst z1133; subst z1134; exact And.intro (fun z1136 => And.intro trivial ((((((h.2 (w_B01_n.mp z1104)).2 (w_B01_n.mp z1109)).2 (w_B01_n.mp z1114)).2.2 z1116).1 (w_B01_0.mp z1136)))) (fun z1137 => And.intro (And.intro (of_decide_eq_true rfl) rfl) (And.intro (And.intro (of_decide_eq_true rfl) rfl) (And.intro (Exists.intro _ (Exists.intro _ (And.intro rfl ((((((h.2 (w_B01_n.mp z1104)).2 (w_B01_n.mp z1109)).2 (w_B01_n.mp z1114)).2.2 z1116).2 (w_B01_n.mp z1137)).1)))) (fun _ _ z1140 => by have z1139 := ((z1140).1).symm; subst z1139; exact And.intro (And.intro (of_decide_eq_true rfl) rfl) (And.intro (Exists.intro _ (And.intro rfl ((((((h.2 (w_B01_n.mp z1104)).2 (w_B01_n.mp z1109)).2 (w_B01_n.mp z1114)).2.2 z1116).2 (w_B01_n.mp z1137)).2.1))) (fun _ _ z1143 => by obtain ⟨z1141, z1142⟩ := z1143; have z1141 := z1141.symm; have z1142 := z1142.symm; subst z1141; subst z1142; exact And.intro (fun z1144 => And.intro trivial (((((((h.2 (w_B01_n.mp z1104)).2 (w_B01_n.mp z1109)).2 (w_B01_n.mp z1114)).2.2 z1116).2 (w_B01_n.mp z1137)).2.2.1 (w_B01_0.mp z1144)))) (fun z1145 => And.intro (And.intro (of_decide_eq_true rfl) rfl) (And.intro (Exists.intro _ (Exists.intro _ (And.intro rfl (((((((h.2 (w_B01_n.mp z1104)).2 (w_B01_n.mp z1109)).2 (w_B01_n.mp z1114)).2.2 z1116).2 (w_B01_n.mp z1137)).2.2.2 (w_B01_n.mp z1145)).1)))) (fun _ _ z1148 => by obtain ⟨z1146, z1147⟩ := z1148; have z1146 := z1146.symm; have z1147 := z1147.symm; subst z1146; subst z1147; exact And.intro trivial (((((((h.2 (w_B01_n.mp z1104)).2 (w_B01_n.mp z1109)).2 (w_B01_n.mp z1114)).2.2 z1116).2 (w_B01_n.mp z1137)).2.2.2 (w_B01_n.mp z1145)).2)))))))))))))))))))))))
set_option maxHeartbeats 4000000 in
theorem vX7_mark (e : Int32) (x : Int32) (n : Int32) (k : Int32) (μ : wM) (h : pX7_mark e x n k μ) (K : wK) (hK : w_cl 7 gX7_mark shX rfX 43 (some .int) (qX7_mark e x n k μ) tX7_mark K) : K 0 [some (.ref 0), some (.int e), some (.int x), some (.int n), some (.int k), none] [] μ := by
  refine hK uX7_mark 47 _ _ _ _ (vcX7_mark_0 K _ e x n k μ ?_)
  clear hK
  unfold pX7_mark at h
  have h0 := h
  unfold w_IX at h
  refine And.intro (fun z43 => ?_) (fun z43 => ?_)
  · unfold qX7_mark fX7_mark
    rw [if_neg (by rw [z43]; exact Bool.false_ne_true)]
    exact ⟨rfl, rfl⟩
  · refine And.intro (fun z44 => ?_) (fun z44 => ?_)
    · unfold qX7_mark fX7_mark
      rw [if_pos z43, if_neg (by rw [z44]; exact Bool.false_ne_true)]
      exact ⟨rfl, rfl⟩
    · refine And.intro (fun z45 => ?_) (fun z45 => ?_)
      · unfold qX7_mark fX7_mark
        rw [if_pos z43, if_pos z44, if_neg (by rw [z45]; exact Bool.false_ne_true)]
        exact ⟨rfl, rfl⟩
      · refine And.intro (by exact has_in h.1 (by assumption)) ?_
        refine And.intro (fun z46 => ?_) (fun z46 => ?_)
        · refine And.intro (fun z47 => ?_) (fun z47 => ?_)
          · unfold qX7_mark fX7_mark
            rw [if_pos z43, if_pos z44, if_pos z45, if_pos z46, if_neg (by rw [z47]; exact Bool.false_ne_true)]
            exact ⟨rfl, rfl⟩
          · refine And.intro (by first | exact rd_ok h0 (by assumption) (by assumption) | exact rd_okc h0 (has_in h.1 (by assumption))) ?_
            refine And.intro (by exact in9 (by assumption)) ?_
            refine And.intro (fun z48 => ?_) (fun z48 => ?_)
            · unfold qX7_mark fX7_mark
              rw [if_pos z43, if_pos z44, if_pos z45, if_pos z46, if_pos z47, if_neg (by rw [z48]; exact Bool.false_ne_true)]
              exact ⟨rfl, rfl⟩
            · refine And.intro (by first | exact mk_ok (by assumption) (by assumption) | exact mk_ok (by assumption) (in50 (by assumption))) ?_
              unfold qX7_mark fX7_mark
              rw [if_pos z43, if_pos z44, if_pos z45, if_pos z46, if_pos z47, if_pos z48]
              exact ⟨rfl, rfl⟩
        · refine And.intro (fun z49 => ?_) (fun z49 => ?_)
          · unfold qX7_mark fX7_mark
            rw [if_pos z43, if_pos z44, if_pos z45, if_neg z46, if_neg (by rw [z49]; exact Bool.false_ne_true)]
            exact ⟨rfl, rfl⟩
          · refine And.intro (by first | exact rd_ok h0 (by assumption) (by assumption) | exact rd_okc h0 (has_in h.1 (by assumption))) ?_
            refine And.intro (by exact in9 (by assumption)) ?_
            refine And.intro (fun z50 => ?_) (fun z50 => ?_)
            · unfold qX7_mark fX7_mark
              rw [if_pos z43, if_pos z44, if_pos z45, if_neg z46, if_pos z49, if_neg (by rw [z50]; exact Bool.false_ne_true)]
              exact ⟨rfl, rfl⟩
            · refine And.intro (by first | exact mk_ok (by assumption) (by assumption) | exact mk_ok (by assumption) (in50 (by assumption))) ?_
              unfold qX7_mark fX7_mark
              rw [if_pos z43, if_pos z44, if_pos z45, if_neg z46, if_pos z49, if_pos z50]
              exact ⟨rfl, rfl⟩
set_option maxRecDepth 100000 in
theorem zX7_mark (l : Launch) : ∀ (idx : Nat) (S : wS), gX7_mark idx = some S → w_Call l 7 idx S 6 shX rfX 43 := by
  intro idx S hS
  unfold gX7_mark at hS
  split at hS
  · cases hS
    exact w_callS (mX7_within l) eX7_within.1 (by decide +kernel) eX7_within.2.1 eX7_within.2.2 (by decide +kernel) (by decide) (by decide)
  · cases hS
    exact w_callV (ci := 3) (mX3_has l) (by decide) rX3_has eX3_has.1 (by decide +kernel) eX3_has.2.1 eX3_has.2.2.1 eX3_has.2.2.2 (by decide +kernel) (by decide) (by decide)
  · cases hS
    exact w_callS (mX7_isMan l) eX7_isMan.1 (by decide +kernel) eX7_isMan.2.1 eX7_isMan.2.2 (by decide +kernel) (by decide) (by decide)
  · cases hS
    exact w_callV (ci := 7) (mX7_isAsOf l) (by decide) rX7_isAsOf eX7_isAsOf.1 (by decide +kernel) eX7_isAsOf.2.1 eX7_isAsOf.2.2.1 eX7_isAsOf.2.2.2 (by decide +kernel) (by decide) (by decide)
  · cases hS
    exact w_callV (ci := 0) (mX0_read l) (by decide) rX0_read eX0_read.1 (by decide +kernel) eX0_read.2.1 eX0_read.2.2.1 eX0_read.2.2.2 (by decide +kernel) (by decide) (by decide)
  · cases hS
    exact w_callV (ci := 0) (mX0_hasMark l) (by decide) rX0_hasMark eX0_hasMark.1 (by decide +kernel) eX0_hasMark.2.1 eX0_hasMark.2.2.1 eX0_hasMark.2.2.2 (by decide +kernel) (by decide) (by decide)
  · cases hS
    exact w_callV (ci := 0) (mX0_markOf l) (by decide) rX0_markOf eX0_markOf.1 (by decide +kernel) eX0_markOf.2.1 eX0_markOf.2.2.1 eX0_markOf.2.2.2 (by decide +kernel) (by decide) (by decide)
  · cases hS
theorem mX7_mark (l : Launch) : w_Met l yX7_mark cX7_mark 6 (some .int) 6 shX rfX 43 sX7_mark.2.2.2.1 sX7_mark.2.2.2.2 :=
  w_meth (o := 7) (Γ := gX7_mark) (tb := tX7_mark) (by decide +kernel) rfl kX7_mark rfl (zX7_mark l) (fun as μ h => by obtain ⟨e, x, n, k, rfl, h⟩ := h; exact Nat.le_of_ble_eq_true rfl) (fun as μ h K hK => by obtain ⟨e, x, n, k, rfl, h⟩ := h; exact vX7_mark e x n k μ h K hK)
set_option maxRecDepth 100000 in
theorem eX7_mark : Cond.code yX7_mark cX7_mark 6 (some .int) ∈ w_tbl ∧ Cond.instanceMethod yX7_mark ∈ w_tbl ∧ Cond.selects (w_C 7) yX7_mark yX7_mark ∈ w_tbl ∧ Cond.initialized yX7_mark.cls ∈ w_tbl := ⟨by decide +kernel, by decide +kernel, by decide +kernel, by decide +kernel⟩
theorem rX7_mark : ∀ as μ, sX7_mark.2.2.2.1 as μ → ∃ q as', as = .ref q :: as' ∧ q < 43 ∧ shX q = .inl 7 := by
  intro as μ h
  obtain ⟨e, x, n, k, rfl, h⟩ := h
  exact ⟨_, _, rfl, by decide, rfl⟩

def fX7_place (e : Int32) (x : Int32) (n : Int32) (μ : wM) : Int32 × wM := (if (w_hasB (μ 1 1) e) = true then (if (w_inB x 0 9) = true then (if (w_inB n 0 (μ 2 5)) = true then (if (decide (0 < (w_aft μ (Int32.toNatClampNeg e + 27) (n : Int32).toNatClampNeg) 19 (x : Int32).toNatClampNeg)) = true then (((w_aft μ (Int32.toNatClampNeg e + 27) (n : Int32).toNatClampNeg) 19 (x : Int32).toNatClampNeg), (w_aft μ (Int32.toNatClampNeg e + 27) (n : Int32).toNatClampNeg)) else ((-2), (w_aft μ (Int32.toNatClampNeg e + 27) (n : Int32).toNatClampNeg))) else ((-1), μ)) else ((-1), μ)) else ((-1), μ))
/-! X7_place -/
def pX7_place (e : Int32) (x : Int32) (n : Int32) (μ : wM) : Prop := w_IX μ
def qX7_place (e : Int32) (x : Int32) (n : Int32) (μ : wM) (r : Int32) (μ' : wM) : Prop := r = (fX7_place e x n μ).1 ∧ μ' = (fX7_place e x n μ).2
def sX7_place : wS := (false, false, 4, fun as μ => ∃ e, ∃ x, ∃ n, as = [.ref 0, .int e, .int x, .int n] ∧ pX7_place e x n μ, fun as μ r μ' => match as with
  | [.ref _, .int e, .int x, .int n] => qX7_place e x n μ r μ'
  | _ => False)
def gX7_place : Nat → Option wS := fun k => match k with
  | 67 => some sX3_has
  | 71 => some sX7_isMan
  | 172 => some sX7_isAsOf
  | 175 => some sX0_read
  | 185 => some sX0_isTold
  | _ => none
def uX7_place : Nat → Option (List Nat) := fun _ => none
set_option maxHeartbeats 4000000 in
set_option maxRecDepth 100000 in
theorem vcX7_place_0 (K : wK) (R : Int32 → wM → Prop) (e : Int32) (x : Int32) (n : Int32) (μ : wM) (h : (
    ((w_hasB (μ 1 1) e) = false → R (-1) μ) ∧
    ((w_hasB (μ 1 1) e) = true → (
      ((w_inB x 0 9) = false → R (-1) μ) ∧
      ((w_inB x 0 9) = true → (
        ((w_inB n 0 (μ 2 5)) = false → R (-1) μ) ∧
        ((w_inB n 0 (μ 2 5)) = true → (vp_in e 8) ∧ pX0_read (Int32.toNatClampNeg e + 27) n μ ∧ pX0_isTold x (w_aft μ (Int32.toNatClampNeg e + 27) (n : Int32).toNatClampNeg) ∧ (
          ((decide (0 < (w_aft μ (Int32.toNatClampNeg e + 27) (n : Int32).toNatClampNeg) 19 (x : Int32).toNatClampNeg)) = false → R (-2) (w_aft μ (Int32.toNatClampNeg e + 27) (n : Int32).toNatClampNeg)) ∧
          ((decide (0 < (w_aft μ (Int32.toNatClampNeg e + 27) (n : Int32).toNatClampNeg) 19 (x : Int32).toNatClampNeg)) = true → (vp_in x 10) ∧ R ((w_aft μ (Int32.toNatClampNeg e + 27) (n : Int32).toNatClampNeg) 19 (x : Int32).toNatClampNeg) (w_aft μ (Int32.toNatClampNeg e + 27) (n : Int32).toNatClampNeg)))))))))) : w_n 7 gX7_place shX rfX 43 (some .int) R tX7_place uX7_place K 36 0 [some (.ref 0), some (.int e), some (.int x), some (.int n)] [] μ :=
  And.intro (And.intro (of_decide_eq_true rfl) rfl) (And.intro (Exists.intro _ (And.intro rfl (trivial))) (fun _ _ z1174 => by obtain ⟨z1172, z1173⟩ := z1174; have z1172 := z1172.symm; have z1173 := z1173.symm; subst z1172; subst z1173; exact And.intro (fun z1175 => And.intro trivial ((h.1 (w_B01_0.mp z1175)))) (fun z1176 => And.intro (Exists.intro _ (And.intro rfl (trivial))) (fun _ _ z1179 => by obtain ⟨z1177, z1178⟩ := z1179; have z1177 := z1177.symm; have z1178 := z1178.symm; subst z1177; subst z1178; exact And.intro (fun z1180 => And.intro trivial (((h.2 (w_B01_n.mp z1176)).1 (w_B01_0.mp z1180)))) (fun z1181 => And.intro (Exists.intro _ (And.intro rfl (trivial))) (fun _ _ z1184 => by obtain ⟨z1182, z1183⟩ := z1184; have z1182 := z1182.symm; have z1183 := z1183.symm; subst z1182; subst z1183; exact And.intro (fun z1185 => And.intro trivial ((((h.2 (w_B01_n.mp z1176)).2 (w_B01_n.mp z1181)).1 (w_B01_0.mp z1185)))) (fun z1186 => And.intro (And.intro (of_decide_eq_true rfl) rfl) (And.intro (And.intro (of_decide_eq_true rfl) rfl) (And.intro (And.intro (of_decide_eq_true rfl) rfl) (And.intro (And.intro (of_decide_eq_true rfl) rfl) (And.intro (Or.inl (And.intro (of_decide_eq_true rfl) (Exists.intro _ (And.intro rfl ((((h.2 (w_B01_n.mp z1176)).2 (w_B01_n.mp z1181)).2 (w_B01_n.mp z1186)).1))))) (And.intro (Exists.intro _ (Exists.intro _ (And.intro rfl ((((h.2 (w_B01_n.mp z1176)).2 (w_B01_n.mp z1181)).2 (w_B01_n.mp z1186)).2.1)))) (fun _ _ z1189 => by have z1188 := ((z1189).1).symm; subst z1188; exact And.intro (And.intro (of_decide_eq_true rfl) rfl) (And.intro (Exists.intro _ (And.intro rfl ((((h.2 (w_B01_n.mp z1176)).2 (w_B01_n.mp z1181)).2 (w_B01_n.mp z1186)).2.2.1))) (fun _ _ z1192 => by obtain ⟨z1190, z1191⟩ := z1192; have z1190 := z1190.symm; have z1191 := z1191.symm; subst z1190; subst z1191; exact And.intro (fun z1193 => And.intro trivial (((((h.2 (w_B01_n.mp z1176)).2 (w_B01_n.mp z1181)).2 (w_B01_n.mp z1186)).2.2.2.1 (w_B01_0.mp z1193)))) (fun z1194 => And.intro (And.intro (of_decide_eq_true rfl) rfl) (And.intro (And.intro (of_decide_eq_true rfl) rfl) (And.intro (And.intro (of_decide_eq_true rfl) (Exists.intro _ (And.intro rfl (((((h.2 (w_B01_n.mp z1176)).2 (w_B01_n.mp z1181)).2 (w_B01_n.mp z1186)).2.2.2.2 (w_B01_n.mp z1194)).1)))) (And.intro trivial (((((h.2 (w_B01_n.mp z1176)).2 (w_B01_n.mp z1181)).2 (w_B01_n.mp z1186)).2.2.2.2 (w_B01_n.mp z1194)).2))))))))))))))))))))
set_option maxHeartbeats 4000000 in
theorem vX7_place (e : Int32) (x : Int32) (n : Int32) (μ : wM) (h : pX7_place e x n μ) (K : wK) (hK : w_cl 7 gX7_place shX rfX 43 (some .int) (qX7_place e x n μ) tX7_place K) : K 0 [some (.ref 0), some (.int e), some (.int x), some (.int n)] [] μ := by
  refine hK uX7_place 36 _ _ _ _ (vcX7_place_0 K _ e x n μ ?_)
  clear hK
  unfold pX7_place at h
  have h0 := h
  unfold w_IX at h
  refine And.intro (fun z51 => ?_) (fun z51 => ?_)
  · unfold qX7_place fX7_place
    rw [if_neg (by rw [z51]; exact Bool.false_ne_true)]
    exact ⟨rfl, rfl⟩
  · refine And.intro (fun z52 => ?_) (fun z52 => ?_)
    · unfold qX7_place fX7_place
      rw [if_pos z51, if_neg (by rw [z52]; exact Bool.false_ne_true)]
      exact ⟨rfl, rfl⟩
    · refine And.intro (fun z53 => ?_) (fun z53 => ?_)
      · unfold qX7_place fX7_place
        rw [if_pos z51, if_pos z52, if_neg (by rw [z53]; exact Bool.false_ne_true)]
        exact ⟨rfl, rfl⟩
      · refine And.intro (by exact has_in h.1 (by assumption)) ?_
        refine And.intro (by first | exact rd_ok h0 (by assumption) (by assumption) | exact rd_okc h0 (has_in h.1 (by assumption))) ?_
        refine And.intro (by exact in9 (by assumption)) ?_
        refine And.intro (fun z54 => ?_) (fun z54 => ?_)
        · unfold qX7_place fX7_place
          rw [if_pos z51, if_pos z52, if_pos z53, if_neg (by rw [z54]; exact Bool.false_ne_true)]
          exact ⟨rfl, rfl⟩
        · refine And.intro (by exact in9 (by assumption)) ?_
          unfold qX7_place fX7_place
          rw [if_pos z51, if_pos z52, if_pos z53, if_pos z54]
          exact ⟨rfl, rfl⟩
set_option maxRecDepth 100000 in
theorem zX7_place (l : Launch) : ∀ (idx : Nat) (S : wS), gX7_place idx = some S → w_Call l 7 idx S 6 shX rfX 43 := by
  intro idx S hS
  unfold gX7_place at hS
  split at hS
  · cases hS
    exact w_callV (ci := 3) (mX3_has l) (by decide) rX3_has eX3_has.1 (by decide +kernel) eX3_has.2.1 eX3_has.2.2.1 eX3_has.2.2.2 (by decide +kernel) (by decide) (by decide)
  · cases hS
    exact w_callS (mX7_isMan l) eX7_isMan.1 (by decide +kernel) eX7_isMan.2.1 eX7_isMan.2.2 (by decide +kernel) (by decide) (by decide)
  · cases hS
    exact w_callV (ci := 7) (mX7_isAsOf l) (by decide) rX7_isAsOf eX7_isAsOf.1 (by decide +kernel) eX7_isAsOf.2.1 eX7_isAsOf.2.2.1 eX7_isAsOf.2.2.2 (by decide +kernel) (by decide) (by decide)
  · cases hS
    exact w_callV (ci := 0) (mX0_read l) (by decide) rX0_read eX0_read.1 (by decide +kernel) eX0_read.2.1 eX0_read.2.2.1 eX0_read.2.2.2 (by decide +kernel) (by decide) (by decide)
  · cases hS
    exact w_callV (ci := 0) (mX0_isTold l) (by decide) rX0_isTold eX0_isTold.1 (by decide +kernel) eX0_isTold.2.1 eX0_isTold.2.2.1 eX0_isTold.2.2.2 (by decide +kernel) (by decide) (by decide)
  · cases hS
theorem mX7_place (l : Launch) : w_Met l yX7_place cX7_place 4 (some .int) 6 shX rfX 43 sX7_place.2.2.2.1 sX7_place.2.2.2.2 :=
  w_meth (o := 7) (Γ := gX7_place) (tb := tX7_place) (by decide +kernel) rfl kX7_place rfl (zX7_place l) (fun as μ h => by obtain ⟨e, x, n, rfl, h⟩ := h; exact Nat.le_of_ble_eq_true rfl) (fun as μ h K hK => by obtain ⟨e, x, n, rfl, h⟩ := h; exact vX7_place e x n μ h K hK)
set_option maxRecDepth 100000 in
theorem eX7_place : Cond.code yX7_place cX7_place 4 (some .int) ∈ w_tbl ∧ Cond.instanceMethod yX7_place ∈ w_tbl ∧ Cond.selects (w_C 7) yX7_place yX7_place ∈ w_tbl ∧ Cond.initialized yX7_place.cls ∈ w_tbl := ⟨by decide +kernel, by decide +kernel, by decide +kernel, by decide +kernel⟩
theorem rX7_place : ∀ as μ, sX7_place.2.2.2.1 as μ → ∃ q as', as = .ref q :: as' ∧ q < 43 ∧ shX q = .inl 7 := by
  intro as μ h
  obtain ⟨e, x, n, rfl, h⟩ := h
  exact ⟨_, _, rfl, by decide, rfl⟩

def fX7_paradox (e : Int32) (n : Int32) (μ : wM) : Int32 × wM := (if (w_hasB (μ 1 1) e) = true then (if (w_inB n 0 (μ 2 5)) = true then (if (((μ (Int32.toNatClampNeg e + 27) 1) : Int32) = 2) then ((w_find (fun i => decide (1 < (w_aft μ (Int32.toNatClampNeg e + 27) (n : Int32).toNatClampNeg) 19 i) && w_bts ((w_aft μ (Int32.toNatClampNeg e + 27) (n : Int32).toNatClampNeg) 19) ((w_aft μ (Int32.toNatClampNeg e + 27) (n : Int32).toNatClampNeg) 22) i) 10 0), (w_aft μ (Int32.toNatClampNeg e + 27) (n : Int32).toNatClampNeg)) else ((-12), μ)) else ((-1), μ)) else ((-1), μ))
/-! X7_paradox -/
def pX7_paradox (e : Int32) (n : Int32) (μ : wM) : Prop := w_IX μ
def qX7_paradox (e : Int32) (n : Int32) (μ : wM) (r : Int32) (μ' : wM) : Prop := r = (fX7_paradox e n μ).1 ∧ μ' = (fX7_paradox e n μ).2
def sX7_paradox : wS := (false, false, 3, fun as μ => ∃ e, ∃ n, as = [.ref 0, .int e, .int n] ∧ pX7_paradox e n μ, fun as μ r μ' => match as with
  | [.ref _, .int e, .int n] => qX7_paradox e n μ r μ'
  | _ => False)
def gX7_paradox : Nat → Option wS := fun k => match k with
  | 67 => some sX3_has
  | 172 => some sX7_isAsOf
  | 175 => some sX0_read
  | 195 => some sX0_leastParadox
  | _ => none
def uX7_paradox : Nat → Option (List Nat) := fun _ => none
set_option maxHeartbeats 4000000 in
set_option maxRecDepth 100000 in
theorem vcX7_paradox_0 (K : wK) (R : Int32 → wM → Prop) (e : Int32) (n : Int32) (μ : wM) (h : (
    ((w_hasB (μ 1 1) e) = false → R (-1) μ) ∧
    ((w_hasB (μ 1 1) e) = true → (
      ((w_inB n 0 (μ 2 5)) = false → R (-1) μ) ∧
      ((w_inB n 0 (μ 2 5)) = true → (vp_in e 8) ∧ (
        ((((μ (Int32.toNatClampNeg e + 27) 1) : Int32) = 2) → pX0_read (Int32.toNatClampNeg e + 27) n μ ∧ R (w_find (fun i => decide (1 < (w_aft μ (Int32.toNatClampNeg e + 27) (n : Int32).toNatClampNeg) 19 i) && w_bts ((w_aft μ (Int32.toNatClampNeg e + 27) (n : Int32).toNatClampNeg) 19) ((w_aft μ (Int32.toNatClampNeg e + 27) (n : Int32).toNatClampNeg) 22) i) 10 0) (w_aft μ (Int32.toNatClampNeg e + 27) (n : Int32).toNatClampNeg)) ∧
        (¬ (((μ (Int32.toNatClampNeg e + 27) 1) : Int32) = 2) → R (-12) μ))))))) : w_n 7 gX7_paradox shX rfX 43 (some .int) R tX7_paradox uX7_paradox K 31 0 [some (.ref 0), some (.int e), some (.int n), none] [] μ :=
  And.intro (And.intro (of_decide_eq_true rfl) rfl) (And.intro (Exists.intro _ (And.intro rfl (trivial))) (fun _ _ z1215 => by obtain ⟨z1213, z1214⟩ := z1215; have z1213 := z1213.symm; have z1214 := z1214.symm; subst z1213; subst z1214; exact And.intro (fun z1216 => And.intro trivial ((h.1 (w_B01_0.mp z1216)))) (fun z1217 => And.intro (Exists.intro _ (And.intro rfl (trivial))) (fun _ _ z1220 => by obtain ⟨z1218, z1219⟩ := z1220; have z1218 := z1218.symm; have z1219 := z1219.symm; subst z1218; subst z1219; exact And.intro (fun z1221 => And.intro trivial (((h.2 (w_B01_n.mp z1217)).1 (w_B01_0.mp z1221)))) (fun z1222 => And.intro (And.intro (of_decide_eq_true rfl) rfl) (And.intro (And.intro (of_decide_eq_true rfl) rfl) (And.intro (Or.inl (And.intro (of_decide_eq_true rfl) (Exists.intro _ (And.intro rfl (((h.2 (w_B01_n.mp z1217)).2 (w_B01_n.mp z1222)).1))))) (And.intro (ev_ok (((h.2 (w_B01_n.mp z1217)).2 (w_B01_n.mp z1222)).1)) (And.intro (fun z1223 => And.intro (And.intro (of_decide_eq_true rfl) rfl) (And.intro (And.intro (of_decide_eq_true rfl) rfl) (And.intro (Exists.intro _ (Exists.intro _ (And.intro rfl ((((h.2 (w_B01_n.mp z1217)).2 (w_B01_n.mp z1222)).2.1 z1223).1)))) (fun _ _ z1227 => by have z1226 := ((z1227).1).symm; subst z1226; exact And.intro (And.intro (of_decide_eq_true rfl) rfl) (And.intro (And.intro rfl (trivial)) (fun _ _ z1230 => by obtain ⟨z1228, z1229⟩ := z1230; have z1228 := z1228.symm; have z1229 := z1229.symm; subst z1228; subst z1229; exact And.intro trivial ((((h.2 (w_B01_n.mp z1217)).2 (w_B01_n.mp z1222)).2.1 z1223).2))))))) (fun z1224 => And.intro trivial ((((h.2 (w_B01_n.mp z1217)).2 (w_B01_n.mp z1222)).2.2 z1224))))))))))))
set_option maxHeartbeats 4000000 in
theorem vX7_paradox (e : Int32) (n : Int32) (μ : wM) (h : pX7_paradox e n μ) (K : wK) (hK : w_cl 7 gX7_paradox shX rfX 43 (some .int) (qX7_paradox e n μ) tX7_paradox K) : K 0 [some (.ref 0), some (.int e), some (.int n), none] [] μ := by
  refine hK uX7_paradox 31 _ _ _ _ (vcX7_paradox_0 K _ e n μ ?_)
  clear hK
  unfold pX7_paradox at h
  have h0 := h
  unfold w_IX at h
  refine And.intro (fun z55 => ?_) (fun z55 => ?_)
  · unfold qX7_paradox fX7_paradox
    rw [if_neg (by rw [z55]; exact Bool.false_ne_true)]
    exact ⟨rfl, rfl⟩
  · refine And.intro (fun z56 => ?_) (fun z56 => ?_)
    · unfold qX7_paradox fX7_paradox
      rw [if_pos z55, if_neg (by rw [z56]; exact Bool.false_ne_true)]
      exact ⟨rfl, rfl⟩
    · refine And.intro (by exact has_in h.1 (by assumption)) ?_
      refine And.intro (fun z57 => ?_) (fun z57 => ?_)
      · refine And.intro (by first | exact rd_ok h0 (by assumption) (by assumption) | exact rd_okc h0 (has_in h.1 (by assumption))) ?_
        unfold qX7_paradox fX7_paradox
        rw [if_pos z55, if_pos z56, if_pos z57]
        exact ⟨rfl, rfl⟩
      · unfold qX7_paradox fX7_paradox
        rw [if_pos z55, if_pos z56, if_neg z57]
        exact ⟨rfl, rfl⟩
set_option maxRecDepth 100000 in
theorem zX7_paradox (l : Launch) : ∀ (idx : Nat) (S : wS), gX7_paradox idx = some S → w_Call l 7 idx S 6 shX rfX 43 := by
  intro idx S hS
  unfold gX7_paradox at hS
  split at hS
  · cases hS
    exact w_callV (ci := 3) (mX3_has l) (by decide) rX3_has eX3_has.1 (by decide +kernel) eX3_has.2.1 eX3_has.2.2.1 eX3_has.2.2.2 (by decide +kernel) (by decide) (by decide)
  · cases hS
    exact w_callV (ci := 7) (mX7_isAsOf l) (by decide) rX7_isAsOf eX7_isAsOf.1 (by decide +kernel) eX7_isAsOf.2.1 eX7_isAsOf.2.2.1 eX7_isAsOf.2.2.2 (by decide +kernel) (by decide) (by decide)
  · cases hS
    exact w_callV (ci := 0) (mX0_read l) (by decide) rX0_read eX0_read.1 (by decide +kernel) eX0_read.2.1 eX0_read.2.2.1 eX0_read.2.2.2 (by decide +kernel) (by decide) (by decide)
  · cases hS
    exact w_callV (ci := 0) (mX0_leastParadox l) (by decide) rX0_leastParadox eX0_leastParadox.1 (by decide +kernel) eX0_leastParadox.2.1 eX0_leastParadox.2.2.1 eX0_leastParadox.2.2.2 (by decide +kernel) (by decide) (by decide)
  · cases hS
theorem mX7_paradox (l : Launch) : w_Met l yX7_paradox cX7_paradox 4 (some .int) 6 shX rfX 43 sX7_paradox.2.2.2.1 sX7_paradox.2.2.2.2 :=
  w_meth (o := 7) (Γ := gX7_paradox) (tb := tX7_paradox) (by decide +kernel) rfl kX7_paradox rfl (zX7_paradox l) (fun as μ h => by obtain ⟨e, n, rfl, h⟩ := h; exact Nat.le_of_ble_eq_true rfl) (fun as μ h K hK => by obtain ⟨e, n, rfl, h⟩ := h; exact vX7_paradox e n μ h K hK)
set_option maxRecDepth 100000 in
theorem eX7_paradox : Cond.code yX7_paradox cX7_paradox 4 (some .int) ∈ w_tbl ∧ Cond.instanceMethod yX7_paradox ∈ w_tbl ∧ Cond.selects (w_C 7) yX7_paradox yX7_paradox ∈ w_tbl ∧ Cond.initialized yX7_paradox.cls ∈ w_tbl := ⟨by decide +kernel, by decide +kernel, by decide +kernel, by decide +kernel⟩
theorem rX7_paradox : ∀ as μ, sX7_paradox.2.2.2.1 as μ → ∃ q as', as = .ref q :: as' ∧ q < 43 ∧ shX q = .inl 7 := by
  intro as μ h
  obtain ⟨e, n, rfl, h⟩ := h
  exact ⟨_, _, rfl, by decide, rfl⟩
