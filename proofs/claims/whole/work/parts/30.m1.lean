/-! X8_in -/
def pX8_in (a : Int32) (b : Int32) (c : Int32) (μ : wM) : Prop := True
def qX8_in (a : Int32) (b : Int32) (c : Int32) (μ : wM) (r : Int32) (μ' : wM) : Prop := r = (w_B01 (w_inB a b c)) ∧ μ' = μ
def sX8_in : wS := (true, false, 3, fun as μ => ∃ a, ∃ b, ∃ c, as = [.int a, .int b, .int c] ∧ pX8_in a b c μ, fun as μ r μ' => match as with
  | [.int a, .int b, .int c] => qX8_in a b c μ r μ'
  | _ => False)
def gX8_in : Nat → Option wS := fun k => match k with
  | _ => none
def uX8_in : Nat → Option (List Nat) := fun _ => none
set_option maxHeartbeats 4000000 in
set_option maxRecDepth 100000 in
theorem vcX8_in_0 (K : wK) (R : Int32 → wM → Prop) (a : Int32) (b : Int32) (c : Int32) (μ : wM) (h : (
    (((a : Int32) < b) → R 0 μ) ∧
    (¬ ((a : Int32) < b) → (
      (((c : Int32) < a) → R 0 μ) ∧
      (¬ ((c : Int32) < a) → R 1 μ))))) : w_n 8 gX8_in shM rfM 32 (some .boolean) R tX8_in uX8_in K 10 0 [some (.int a), some (.int b), some (.int c)] [] μ :=
  And.intro (fun z1235 => And.intro (Or.inl rfl) ((h.1 z1235))) (fun z1236 => And.intro (fun z1237 => And.intro (Or.inl rfl) (((h.2 z1236).1 z1237))) (fun z1238 => And.intro (Or.inr rfl) (((h.2 z1236).2 z1238))))
set_option maxHeartbeats 4000000 in
theorem vX8_in (a : Int32) (b : Int32) (c : Int32) (μ : wM) (h : pX8_in a b c μ) (K : wK) (hK : w_cl 8 gX8_in shM rfM 32 (some .boolean) (qX8_in a b c μ) tX8_in K) : K 0 [some (.int a), some (.int b), some (.int c)] [] μ := by
  refine hK uX8_in 10 _ _ _ _ (vcX8_in_0 K _ a b c μ ?_)
  clear hK
  unfold pX8_in at h
  unfold qX8_in
  refine ⟨fun c1 => ⟨w_B01_f ?_, rfl⟩, fun c1 => ⟨fun c2 => ⟨w_B01_f ?_, rfl⟩, fun c2 => ⟨w_B01_t ?_, rfl⟩⟩⟩
  · rw [w_inB_t]; intro z; exact i_nle.mpr c1 z.1
  · rw [w_inB_t]; intro z; exact i_nle.mpr c2 z.2
  · rw [w_inB_t]; exact ⟨i_nlt.mp c1, i_nlt.mp c2⟩
set_option maxRecDepth 100000 in
theorem zX8_in (l : Launch) : ∀ (idx : Nat) (S : wS), gX8_in idx = some S → w_Call l 8 idx S 1 shM rfM 32 := by
  intro idx S hS
  unfold gX8_in at hS
  split at hS
  · cases hS
theorem mX8_in (l : Launch) : w_Met l yX8_in cX8_in 3 (some .boolean) 1 shM rfM 32 sX8_in.2.2.2.1 sX8_in.2.2.2.2 :=
  w_meth (o := 8) (Γ := gX8_in) (tb := tX8_in) (by decide +kernel) rfl kX8_in rfl (zX8_in l) (fun as μ h => by obtain ⟨a, b, c, rfl, h⟩ := h; exact Nat.le_of_ble_eq_true rfl) (fun as μ h K hK => by obtain ⟨a, b, c, rfl, h⟩ := h; exact vX8_in a b c μ h K hK)
set_option maxRecDepth 100000 in
theorem eX8_in : Cond.code yX8_in cX8_in 3 (some .boolean) ∈ w_tbl ∧ Cond.static yX8_in ∈ w_tbl ∧ Cond.initialized yX8_in.cls ∈ w_tbl := ⟨by decide +kernel, by decide +kernel, by decide +kernel⟩

/-! X8_isMan -/
def pX8_isMan (a : Int32) (μ : wM) : Prop := True
def qX8_isMan (a : Int32) (μ : wM) (r : Int32) (μ' : wM) : Prop := r = (w_B01 (w_inB a 0 9)) ∧ μ' = μ
def sX8_isMan : wS := (true, false, 1, fun as μ => ∃ a, as = [.int a] ∧ pX8_isMan a μ, fun as μ r μ' => match as with
  | [.int a] => qX8_isMan a μ r μ'
  | _ => False)
def gX8_isMan : Nat → Option wS := fun k => match k with
  | 1 => some sX8_in
  | _ => none
def uX8_isMan : Nat → Option (List Nat) := fun _ => none
set_option maxHeartbeats 4000000 in
set_option maxRecDepth 100000 in
theorem vcX8_isMan_0 (K : wK) (R : Int32 → wM → Prop) (a : Int32) (μ : wM) (h : R (w_B01 (w_inB a 0 9)) μ) : w_n 8 gX8_isMan shM rfM 32 (some .boolean) R tX8_isMan uX8_isMan K 6 0 [some (.int a)] [] μ :=
  And.intro (Exists.intro _ (Exists.intro _ (Exists.intro _ (And.intro rfl (trivial))))) (fun _ _ z1244 => by obtain ⟨z1242, z1243⟩ := z1244; have z1242 := z1242.symm; have z1243 := z1243.symm; subst z1242; subst z1243; exact And.intro (w_B01_bit _) (h))
set_option maxHeartbeats 4000000 in
theorem vX8_isMan (a : Int32) (μ : wM) (h : pX8_isMan a μ) (K : wK) (hK : w_cl 8 gX8_isMan shM rfM 32 (some .boolean) (qX8_isMan a μ) tX8_isMan K) : K 0 [some (.int a)] [] μ := by
  refine hK uX8_isMan 6 _ _ _ _ (vcX8_isMan_0 K _ a μ ?_)
  clear hK
  unfold pX8_isMan at h
  unfold qX8_isMan
  exact ⟨rfl, rfl⟩
set_option maxRecDepth 100000 in
theorem zX8_isMan (l : Launch) : ∀ (idx : Nat) (S : wS), gX8_isMan idx = some S → w_Call l 8 idx S 2 shM rfM 32 := by
  intro idx S hS
  unfold gX8_isMan at hS
  split at hS
  · cases hS
    exact w_callS (mX8_in l) eX8_in.1 (by decide +kernel) eX8_in.2.1 eX8_in.2.2 (by decide +kernel) (by decide) (by decide)
  · cases hS
theorem mX8_isMan (l : Launch) : w_Met l yX8_isMan cX8_isMan 1 (some .boolean) 2 shM rfM 32 sX8_isMan.2.2.2.1 sX8_isMan.2.2.2.2 :=
  w_meth (o := 8) (Γ := gX8_isMan) (tb := tX8_isMan) (by decide +kernel) rfl kX8_isMan rfl (zX8_isMan l) (fun as μ h => by obtain ⟨a, rfl, h⟩ := h; exact Nat.le_of_ble_eq_true rfl) (fun as μ h K hK => by obtain ⟨a, rfl, h⟩ := h; exact vX8_isMan a μ h K hK)
set_option maxRecDepth 100000 in
theorem eX8_isMan : Cond.code yX8_isMan cX8_isMan 1 (some .boolean) ∈ w_tbl ∧ Cond.static yX8_isMan ∈ w_tbl ∧ Cond.initialized yX8_isMan.cls ∈ w_tbl := ⟨by decide +kernel, by decide +kernel, by decide +kernel⟩

/-! X8_isSheet -/
def pX8_isSheet (a : Int32) (μ : wM) : Prop := True
def qX8_isSheet (a : Int32) (μ : wM) (r : Int32) (μ' : wM) : Prop := r = (w_B01 (w_inB a 0 3)) ∧ μ' = μ
def sX8_isSheet : wS := (true, false, 1, fun as μ => ∃ a, as = [.int a] ∧ pX8_isSheet a μ, fun as μ r μ' => match as with
  | [.int a] => qX8_isSheet a μ r μ'
  | _ => False)
def gX8_isSheet : Nat → Option wS := fun k => match k with
  | 1 => some sX8_in
  | _ => none
def uX8_isSheet : Nat → Option (List Nat) := fun _ => none
set_option maxHeartbeats 4000000 in
set_option maxRecDepth 100000 in
theorem vcX8_isSheet_0 (K : wK) (R : Int32 → wM → Prop) (a : Int32) (μ : wM) (h : R (w_B01 (w_inB a 0 3)) μ) : w_n 8 gX8_isSheet shM rfM 32 (some .boolean) R tX8_isSheet uX8_isSheet K 6 0 [some (.int a)] [] μ :=
  And.intro (Exists.intro _ (Exists.intro _ (Exists.intro _ (And.intro rfl (trivial))))) (fun _ _ z1250 => by obtain ⟨z1248, z1249⟩ := z1250; have z1248 := z1248.symm; have z1249 := z1249.symm; subst z1248; subst z1249; exact And.intro (w_B01_bit _) (h))
set_option maxHeartbeats 4000000 in
theorem vX8_isSheet (a : Int32) (μ : wM) (h : pX8_isSheet a μ) (K : wK) (hK : w_cl 8 gX8_isSheet shM rfM 32 (some .boolean) (qX8_isSheet a μ) tX8_isSheet K) : K 0 [some (.int a)] [] μ := by
  refine hK uX8_isSheet 6 _ _ _ _ (vcX8_isSheet_0 K _ a μ ?_)
  clear hK
  unfold pX8_isSheet at h
  unfold qX8_isSheet
  exact ⟨rfl, rfl⟩
set_option maxRecDepth 100000 in
theorem zX8_isSheet (l : Launch) : ∀ (idx : Nat) (S : wS), gX8_isSheet idx = some S → w_Call l 8 idx S 2 shM rfM 32 := by
  intro idx S hS
  unfold gX8_isSheet at hS
  split at hS
  · cases hS
    exact w_callS (mX8_in l) eX8_in.1 (by decide +kernel) eX8_in.2.1 eX8_in.2.2 (by decide +kernel) (by decide) (by decide)
  · cases hS
theorem mX8_isSheet (l : Launch) : w_Met l yX8_isSheet cX8_isSheet 1 (some .boolean) 2 shM rfM 32 sX8_isSheet.2.2.2.1 sX8_isSheet.2.2.2.2 :=
  w_meth (o := 8) (Γ := gX8_isSheet) (tb := tX8_isSheet) (by decide +kernel) rfl kX8_isSheet rfl (zX8_isSheet l) (fun as μ h => by obtain ⟨a, rfl, h⟩ := h; exact Nat.le_of_ble_eq_true rfl) (fun as μ h K hK => by obtain ⟨a, rfl, h⟩ := h; exact vX8_isSheet a μ h K hK)
set_option maxRecDepth 100000 in
theorem eX8_isSheet : Cond.code yX8_isSheet cX8_isSheet 1 (some .boolean) ∈ w_tbl ∧ Cond.static yX8_isSheet ∈ w_tbl ∧ Cond.initialized yX8_isSheet.cls ∈ w_tbl := ⟨by decide +kernel, by decide +kernel, by decide +kernel⟩

/-! X8_isEvent -/
def pX8_isEvent (e : Int32) (μ : wM) : Prop := True
def qX8_isEvent (e : Int32) (μ : wM) (r : Int32) (μ' : wM) : Prop := r = (w_B01 (w_inB e 0 (μ 0 0 - 1))) ∧ μ' = μ
def sX8_isEvent : wS := (false, false, 2, fun as μ => ∃ e, as = [.ref 0, .int e] ∧ pX8_isEvent e μ, fun as μ r μ' => match as with
  | [.ref _, .int e] => qX8_isEvent e μ r μ'
  | _ => False)
def gX8_isEvent : Nat → Option wS := fun k => match k with
  | 1 => some sX8_in
  | _ => none
def uX8_isEvent : Nat → Option (List Nat) := fun _ => none
set_option maxHeartbeats 4000000 in
set_option maxRecDepth 100000 in
theorem vcX8_isEvent_0 (K : wK) (R : Int32 → wM → Prop) (e : Int32) (μ : wM) (h : R (w_B01 (w_inB e 0 ((μ 0 0) - 1))) μ) : w_n 8 gX8_isEvent shM rfM 32 (some .boolean) R tX8_isEvent uX8_isEvent K 9 0 [some (.ref 0), some (.int e)] [] μ :=
  And.intro (And.intro (of_decide_eq_true rfl) rfl) (And.intro (Exists.intro _ (Exists.intro _ (Exists.intro _ (And.intro rfl (trivial))))) (fun _ _ z1256 => by obtain ⟨z1254, z1255⟩ := z1256; have z1254 := z1254.symm; have z1255 := z1255.symm; subst z1254; subst z1255; exact And.intro (w_B01_bit _) (h)))
set_option maxHeartbeats 4000000 in
theorem vX8_isEvent (e : Int32) (μ : wM) (h : pX8_isEvent e μ) (K : wK) (hK : w_cl 8 gX8_isEvent shM rfM 32 (some .boolean) (qX8_isEvent e μ) tX8_isEvent K) : K 0 [some (.ref 0), some (.int e)] [] μ := by
  refine hK uX8_isEvent 9 _ _ _ _ (vcX8_isEvent_0 K _ e μ ?_)
  clear hK
  unfold pX8_isEvent at h
  unfold qX8_isEvent
  exact ⟨rfl, rfl⟩
set_option maxRecDepth 100000 in
theorem zX8_isEvent (l : Launch) : ∀ (idx : Nat) (S : wS), gX8_isEvent idx = some S → w_Call l 8 idx S 2 shM rfM 32 := by
  intro idx S hS
  unfold gX8_isEvent at hS
  split at hS
  · cases hS
    exact w_callS (mX8_in l) eX8_in.1 (by decide +kernel) eX8_in.2.1 eX8_in.2.2 (by decide +kernel) (by decide) (by decide)
  · cases hS
theorem mX8_isEvent (l : Launch) : w_Met l yX8_isEvent cX8_isEvent 2 (some .boolean) 2 shM rfM 32 sX8_isEvent.2.2.2.1 sX8_isEvent.2.2.2.2 :=
  w_meth (o := 8) (Γ := gX8_isEvent) (tb := tX8_isEvent) (by decide +kernel) rfl kX8_isEvent rfl (zX8_isEvent l) (fun as μ h => by obtain ⟨e, rfl, h⟩ := h; exact Nat.le_of_ble_eq_true rfl) (fun as μ h K hK => by obtain ⟨e, rfl, h⟩ := h; exact vX8_isEvent e μ h K hK)
set_option maxRecDepth 100000 in
theorem eX8_isEvent : Cond.code yX8_isEvent cX8_isEvent 2 (some .boolean) ∈ w_tbl ∧ Cond.instanceMethod yX8_isEvent ∈ w_tbl ∧ Cond.selects (w_C 8) yX8_isEvent yX8_isEvent ∈ w_tbl ∧ Cond.initialized yX8_isEvent.cls ∈ w_tbl := ⟨by decide +kernel, by decide +kernel, by decide +kernel, by decide +kernel⟩
theorem rX8_isEvent : ∀ as μ, sX8_isEvent.2.2.2.1 as μ → ∃ q as', as = .ref q :: as' ∧ q < 32 ∧ shM q = .inl 8 := by
  intro as μ h
  obtain ⟨e, rfl, h⟩ := h
  exact ⟨_, _, rfl, by decide, rfl⟩

theorem inM_in {c e : Int32} (h : vp_in c 9) (z : w_inB e 0 (c - 1) = true) : vp_in e 8 := by
  obtain ⟨C, hC, rfl, -⟩ := vp_in_le h (by decide)
  obtain ⟨z1, z2⟩ := w_inB_t.mp z
  obtain ⟨E, hE, rfl⟩ := nI_of (i_nlt.mpr z1)
  cases C with
  | zero =>
    exfalso
    have q := i_le.mp z2
    rw [nI_toInt hE, show (nI 0 - 1 : Int32).toInt = -1 from by decide] at q
    omega
  | succ C =>
    rw [nI_pred] at z2
    exact vp_in_nI (by have := (nI_leI hE (by omega)).mp z2; omega) (by omega)
/-- what holds of the model's memory between calls -/
def w_JX (μ : wM) : Prop := vp_in (μ 0 0) 9 ∧ vp_in (μ 0 22) 161 ∧ vp_in (μ 0 13) 9 ∧ vp_in (μ 0 19) 7 ∧ vp_in (μ 0 35) 7 ∧ vp_in (μ 0 39) 41
theorem ne8_in {c : Int32} (h : vp_in c 9) (z : ¬ c = 8) : vp_in c 8 := by
  obtain ⟨C, hC, rfl, -⟩ := vp_in_le h (by decide)
  exact vp_in_nI (by
    rcases Nat.lt_or_ge C 8 with q | q
    · exact q
    · exact absurd (by rw [show C = 8 by omega]; rfl) z) (by omega)
theorem ne160_in {c : Int32} (h : vp_in c 161) (z : ¬ c = 160) : vp_in c 160 := by
  obtain ⟨C, hC, rfl, -⟩ := vp_in_le h (by decide)
  exact vp_in_nI (by
    rcases Nat.lt_or_ge C 160 with q | q
    · exact q
    · exact absurd (by rw [show C = 160 by omega]; rfl) z) (by omega)
theorem ord_in {c e : Int32} (h : vp_in c 7) (z : w_inB e 0 (c - 1) = true) : vp_in e 6 := by
  obtain ⟨C, hC, rfl, -⟩ := vp_in_le h (by decide)
  obtain ⟨z1, z2⟩ := w_inB_t.mp z
  obtain ⟨E, hE, rfl⟩ := nI_of (i_nlt.mpr z1)
  cases C with
  | zero =>
    exfalso
    have q := i_le.mp z2
    rw [nI_toInt hE, show (nI 0 - 1 : Int32).toInt = -1 from by decide] at q
    omega
  | succ C =>
    rw [nI_pred] at z2
    exact vp_in_nI (by have := (nI_leI hE (by omega)).mp z2; omega) (by omega)
def fX8_event (k : Int32) (p : Int32) (s : Int32) (μ : wM) : Int32 × wM := (if (w_inB k 0 2) = true then (if (w_inB p 1 15) = true then (if (w_inB s 1 12) = true then (if (((μ 0 0) : Int32) = 8) then ((-3), μ) else ((((μ 0 0) + 1) - 1), (w_up (w_up (w_up (w_up (w_up (w_up μ 1 ((μ 0 0) : Int32).toNatClampNeg k) 2 ((μ 0 0) : Int32).toNatClampNeg p) 3 ((μ 0 0) : Int32).toNatClampNeg s) 7 ((μ 0 0) : Int32).toNatClampNeg 10000) 9 ((μ 0 0) : Int32).toNatClampNeg 220) 0 0 ((μ 0 0) + 1)))) else ((-1), μ)) else ((-1), μ)) else ((-1), μ))
/-! X8_event -/
def pX8_event (k : Int32) (p : Int32) (s : Int32) (μ : wM) : Prop := w_JX μ
def qX8_event (k : Int32) (p : Int32) (s : Int32) (μ : wM) (r : Int32) (μ' : wM) : Prop := r = (fX8_event k p s μ).1 ∧ μ' = (fX8_event k p s μ).2
def sX8_event : wS := (false, false, 4, fun as μ => ∃ k, ∃ p, ∃ s, as = [.ref 0, .int k, .int p, .int s] ∧ pX8_event k p s μ, fun as μ r μ' => match as with
  | [.ref _, .int k, .int p, .int s] => qX8_event k p s μ r μ'
  | _ => False)
def gX8_event : Nat → Option wS := fun k => match k with
  | 1 => some sX8_in
  | _ => none
def uX8_event : Nat → Option (List Nat) := fun _ => none
set_option maxHeartbeats 4000000 in
set_option maxRecDepth 100000 in
theorem vcX8_event_0 (K : wK) (R : Int32 → wM → Prop) (k : Int32) (p : Int32) (s : Int32) (μ : wM) (h : (
    ((w_inB k 0 2) = false → R (-1) μ) ∧
    ((w_inB k 0 2) = true → (
      ((w_inB p 1 15) = false → R (-1) μ) ∧
      ((w_inB p 1 15) = true → (
        ((w_inB s 1 12) = false → R (-1) μ) ∧
        ((w_inB s 1 12) = true → (
          ((((μ 0 0) : Int32) = 8) → R (-3) μ) ∧
          (¬ (((μ 0 0) : Int32) = 8) → (vp_in (μ 0 0) 8) ∧ R (((μ 0 0) + 1) - 1) (w_up (w_up (w_up (w_up (w_up (w_up μ 1 ((μ 0 0) : Int32).toNatClampNeg k) 2 ((μ 0 0) : Int32).toNatClampNeg p) 3 ((μ 0 0) : Int32).toNatClampNeg s) 7 ((μ 0 0) : Int32).toNatClampNeg 10000) 9 ((μ 0 0) : Int32).toNatClampNeg 220) 0 0 ((μ 0 0) + 1))))))))))) : w_n 8 gX8_event shM rfM 32 (some .int) R tX8_event uX8_event K 61 0 [some (.ref 0), some (.int k), some (.int p), some (.int s)] [] μ :=
  And.intro (Exists.intro _ (Exists.intro _ (Exists.intro _ (And.intro rfl (trivial))))) (fun _ _ z1276 => by obtain ⟨z1274, z1275⟩ := z1276; have z1274 := z1274.symm; have z1275 := z1275.symm; subst z1274; subst z1275; exact And.intro (fun z1277 => And.intro trivial ((h.1 (w_B01_0.mp z1277)))) (fun z1278 => And.intro (Exists.intro _ (Exists.intro _ (Exists.intro _ (And.intro rfl (trivial))))) (fun _ _ z1281 => by obtain ⟨z1279, z1280⟩ := z1281; have z1279 := z1279.symm; have z1280 := z1280.symm; subst z1279; subst z1280; exact And.intro (fun z1282 => And.intro trivial (((h.2 (w_B01_n.mp z1278)).1 (w_B01_0.mp z1282)))) (fun z1283 => And.intro (Exists.intro _ (Exists.intro _ (Exists.intro _ (And.intro rfl (trivial))))) (fun _ _ z1286 => by obtain ⟨z1284, z1285⟩ := z1286; have z1284 := z1284.symm; have z1285 := z1285.symm; subst z1284; subst z1285; exact And.intro (fun z1287 => And.intro trivial ((((h.2 (w_B01_n.mp z1278)).2 (w_B01_n.mp z1283)).1 (w_B01_0.mp z1287)))) (fun z1288 => And.intro (And.intro (of_decide_eq_true rfl) rfl) (And.intro (fun z1289 => And.intro trivial (((((h.2 (w_B01_n.mp z1278)).2 (w_B01_n.mp z1283)).2 (w_B01_n.mp z1288)).1 z1289))) (fun z1290 => And.intro (And.intro (of_decide_eq_true rfl) rfl) (And.intro (And.intro (of_decide_eq_true rfl) rfl) (And.intro (And.intro (of_decide_eq_true rfl) (Exists.intro _ (And.intro rfl (((((h.2 (w_B01_n.mp z1278)).2 (w_B01_n.mp z1283)).2 (w_B01_n.mp z1288)).2 z1290).1)))) (And.intro (And.intro (of_decide_eq_true rfl) rfl) (And.intro (And.intro (of_decide_eq_true rfl) rfl) (And.intro (And.intro (of_decide_eq_true rfl) (Exists.intro _ (And.intro rfl (((((h.2 (w_B01_n.mp z1278)).2 (w_B01_n.mp z1283)).2 (w_B01_n.mp z1288)).2 z1290).1)))) (And.intro (And.intro (of_decide_eq_true rfl) rfl) (And.intro (And.intro (of_decide_eq_true rfl) rfl) (And.intro (And.intro (of_decide_eq_true rfl) (Exists.intro _ (And.intro rfl (((((h.2 (w_B01_n.mp z1278)).2 (w_B01_n.mp z1283)).2 (w_B01_n.mp z1288)).2 z1290).1)))) (And.intro (And.intro (of_decide_eq_true rfl) rfl) (And.intro (And.intro (of_decide_eq_true rfl) rfl) (And.intro (And.intro (of_decide_eq_true rfl) (Exists.intro _ (And.intro rfl (((((h.2 (w_B01_n.mp z1278)).2 (w_B01_n.mp z1283)).2 (w_B01_n.mp z1288)).2 z1290).1)))) (And.intro (And.intro (of_decide_eq_true rfl) rfl) (And.intro (And.intro (of_decide_eq_true rfl) rfl) (And.intro (And.intro (of_decide_eq_true rfl) (Exists.intro _ (And.intro rfl (((((h.2 (w_B01_n.mp z1278)).2 (w_B01_n.mp z1283)).2 (w_B01_n.mp z1288)).2 z1290).1)))) (And.intro (And.intro (of_decide_eq_true rfl) rfl) (And.intro (And.intro (of_decide_eq_true rfl) (And.intro rfl (trivial))) (And.intro (And.intro (of_decide_eq_true rfl) rfl) (And.intro trivial (((((h.2 (w_B01_n.mp z1278)).2 (w_B01_n.mp z1283)).2 (w_B01_n.mp z1288)).2 z1290).2)))))))))))))))))))))))))))
set_option maxHeartbeats 4000000 in
theorem vX8_event (k : Int32) (p : Int32) (s : Int32) (μ : wM) (h : pX8_event k p s μ) (K : wK) (hK : w_cl 8 gX8_event shM rfM 32 (some .int) (qX8_event k p s μ) tX8_event K) : K 0 [some (.ref 0), some (.int k), some (.int p), some (.int s)] [] μ := by
  refine hK uX8_event 61 _ _ _ _ (vcX8_event_0 K _ k p s μ ?_)
  clear hK
  unfold pX8_event at h
  have h0 := h
  unfold w_JX at h
  refine And.intro (fun z58 => ?_) (fun z58 => ?_)
  · unfold qX8_event fX8_event
    rw [if_neg (by rw [z58]; exact Bool.false_ne_true)]
    exact ⟨rfl, rfl⟩
  · refine And.intro (fun z59 => ?_) (fun z59 => ?_)
    · unfold qX8_event fX8_event
      rw [if_pos z58, if_neg (by rw [z59]; exact Bool.false_ne_true)]
      exact ⟨rfl, rfl⟩
    · refine And.intro (fun z60 => ?_) (fun z60 => ?_)
      · unfold qX8_event fX8_event
        rw [if_pos z58, if_pos z59, if_neg (by rw [z60]; exact Bool.false_ne_true)]
        exact ⟨rfl, rfl⟩
      · refine And.intro (fun z61 => ?_) (fun z61 => ?_)
        · unfold qX8_event fX8_event
          rw [if_pos z58, if_pos z59, if_pos z60, if_pos z61]
          exact ⟨rfl, rfl⟩
        · refine And.intro (by first | exact inM_in h.1 (by assumption) | exact in9 (by assumption) | exact in3 (by assumption) | exact in2 (by assumption) | exact ne8_in h.1 (by assumption) | exact ne8_in h.2.2.1 (by assumption) | exact ne160_in h.2.1 (by assumption) | exact ord_in h.2.2.2.1 (by assumption) | exact h.2.1 | (simp_all; done)) ?_
          unfold qX8_event fX8_event
          rw [if_pos z58, if_pos z59, if_pos z60, if_neg z61]
          exact ⟨rfl, rfl⟩
set_option maxRecDepth 100000 in
theorem zX8_event (l : Launch) : ∀ (idx : Nat) (S : wS), gX8_event idx = some S → w_Call l 8 idx S 2 shM rfM 32 := by
  intro idx S hS
  unfold gX8_event at hS
  split at hS
  · cases hS
    exact w_callS (mX8_in l) eX8_in.1 (by decide +kernel) eX8_in.2.1 eX8_in.2.2 (by decide +kernel) (by decide) (by decide)
  · cases hS
theorem mX8_event (l : Launch) : w_Met l yX8_event cX8_event 4 (some .int) 2 shM rfM 32 sX8_event.2.2.2.1 sX8_event.2.2.2.2 :=
  w_meth (o := 8) (Γ := gX8_event) (tb := tX8_event) (by decide +kernel) rfl kX8_event rfl (zX8_event l) (fun as μ h => by obtain ⟨k, p, s, rfl, h⟩ := h; exact Nat.le_of_ble_eq_true rfl) (fun as μ h K hK => by obtain ⟨k, p, s, rfl, h⟩ := h; exact vX8_event k p s μ h K hK)
set_option maxRecDepth 100000 in
theorem eX8_event : Cond.code yX8_event cX8_event 4 (some .int) ∈ w_tbl ∧ Cond.instanceMethod yX8_event ∈ w_tbl ∧ Cond.selects (w_C 8) yX8_event yX8_event ∈ w_tbl ∧ Cond.initialized yX8_event.cls ∈ w_tbl := ⟨by decide +kernel, by decide +kernel, by decide +kernel, by decide +kernel⟩
theorem rX8_event : ∀ as μ, sX8_event.2.2.2.1 as μ → ∃ q as', as = .ref q :: as' ∧ q < 32 ∧ shM q = .inl 8 := by
  intro as μ h
  obtain ⟨k, p, s, rfl, h⟩ := h
  exact ⟨_, _, rfl, by decide, rfl⟩

def fX8_day (s : Int32) (t : Int32) (μ : wM) : Int32 × wM := (if (w_inB s 1 60) = true then (if (w_inB t 0 6) = true then (1, (w_up (w_up μ 0 11 s) 0 12 t)) else ((-1), μ)) else ((-1), μ))
/-! X8_day -/
def pX8_day (s : Int32) (t : Int32) (μ : wM) : Prop := w_JX μ
def qX8_day (s : Int32) (t : Int32) (μ : wM) (r : Int32) (μ' : wM) : Prop := r = (fX8_day s t μ).1 ∧ μ' = (fX8_day s t μ).2
def sX8_day : wS := (false, false, 3, fun as μ => ∃ s, ∃ t, as = [.ref 0, .int s, .int t] ∧ pX8_day s t μ, fun as μ r μ' => match as with
  | [.ref _, .int s, .int t] => qX8_day s t μ r μ'
  | _ => False)
def gX8_day : Nat → Option wS := fun k => match k with
  | 1 => some sX8_in
  | _ => none
def uX8_day : Nat → Option (List Nat) := fun _ => none
set_option maxHeartbeats 4000000 in
set_option maxRecDepth 100000 in
theorem vcX8_day_0 (K : wK) (R : Int32 → wM → Prop) (s : Int32) (t : Int32) (μ : wM) (h : (
    ((w_inB s 1 60) = false → R (-1) μ) ∧
    ((w_inB s 1 60) = true → (
      ((w_inB t 0 6) = false → R (-1) μ) ∧
      ((w_inB t 0 6) = true → R 1 (w_up (w_up μ 0 11 s) 0 12 t)))))) : w_n 8 gX8_day shM rfM 32 (some .int) R tX8_day uX8_day K 19 0 [some (.ref 0), some (.int s), some (.int t)] [] μ :=
  And.intro (Exists.intro _ (Exists.intro _ (Exists.intro _ (And.intro rfl (trivial))))) (fun _ _ z1303 => by obtain ⟨z1301, z1302⟩ := z1303; have z1301 := z1301.symm; have z1302 := z1302.symm; subst z1301; subst z1302; exact And.intro (fun z1304 => And.intro trivial ((h.1 (w_B01_0.mp z1304)))) (fun z1305 => And.intro (Exists.intro _ (Exists.intro _ (Exists.intro _ (And.intro rfl (trivial))))) (fun _ _ z1308 => by obtain ⟨z1306, z1307⟩ := z1308; have z1306 := z1306.symm; have z1307 := z1307.symm; subst z1306; subst z1307; exact And.intro (fun z1309 => And.intro trivial (((h.2 (w_B01_n.mp z1305)).1 (w_B01_0.mp z1309)))) (fun z1310 => And.intro (And.intro (of_decide_eq_true rfl) (And.intro rfl (trivial))) (And.intro (And.intro (of_decide_eq_true rfl) (And.intro rfl (trivial))) (And.intro trivial (((h.2 (w_B01_n.mp z1305)).2 (w_B01_n.mp z1310)))))))))
set_option maxHeartbeats 4000000 in
theorem vX8_day (s : Int32) (t : Int32) (μ : wM) (h : pX8_day s t μ) (K : wK) (hK : w_cl 8 gX8_day shM rfM 32 (some .int) (qX8_day s t μ) tX8_day K) : K 0 [some (.ref 0), some (.int s), some (.int t)] [] μ := by
  refine hK uX8_day 19 _ _ _ _ (vcX8_day_0 K _ s t μ ?_)
  clear hK
  unfold pX8_day at h
  have h0 := h
  unfold w_JX at h
  refine And.intro (fun z62 => ?_) (fun z62 => ?_)
  · unfold qX8_day fX8_day
    rw [if_neg (by rw [z62]; exact Bool.false_ne_true)]
    exact ⟨rfl, rfl⟩
  · refine And.intro (fun z63 => ?_) (fun z63 => ?_)
    · unfold qX8_day fX8_day
      rw [if_pos z62, if_neg (by rw [z63]; exact Bool.false_ne_true)]
      exact ⟨rfl, rfl⟩
    · unfold qX8_day fX8_day
      rw [if_pos z62, if_pos z63]
      exact ⟨rfl, rfl⟩
set_option maxRecDepth 100000 in
theorem zX8_day (l : Launch) : ∀ (idx : Nat) (S : wS), gX8_day idx = some S → w_Call l 8 idx S 2 shM rfM 32 := by
  intro idx S hS
  unfold gX8_day at hS
  split at hS
  · cases hS
    exact w_callS (mX8_in l) eX8_in.1 (by decide +kernel) eX8_in.2.1 eX8_in.2.2 (by decide +kernel) (by decide) (by decide)
  · cases hS
theorem mX8_day (l : Launch) : w_Met l yX8_day cX8_day 3 (some .int) 2 shM rfM 32 sX8_day.2.2.2.1 sX8_day.2.2.2.2 :=
  w_meth (o := 8) (Γ := gX8_day) (tb := tX8_day) (by decide +kernel) rfl kX8_day rfl (zX8_day l) (fun as μ h => by obtain ⟨s, t, rfl, h⟩ := h; exact Nat.le_of_ble_eq_true rfl) (fun as μ h K hK => by obtain ⟨s, t, rfl, h⟩ := h; exact vX8_day s t μ h K hK)
set_option maxRecDepth 100000 in
theorem eX8_day : Cond.code yX8_day cX8_day 3 (some .int) ∈ w_tbl ∧ Cond.instanceMethod yX8_day ∈ w_tbl ∧ Cond.selects (w_C 8) yX8_day yX8_day ∈ w_tbl ∧ Cond.initialized yX8_day.cls ∈ w_tbl := ⟨by decide +kernel, by decide +kernel, by decide +kernel, by decide +kernel⟩
theorem rX8_day : ∀ as μ, sX8_day.2.2.2.1 as μ → ∃ q as', as = .ref q :: as' ∧ q < 32 ∧ shM q = .inl 8 := by
  intro as μ h
  obtain ⟨s, t, rfl, h⟩ := h
  exact ⟨_, _, rfl, by decide, rfl⟩

def fX8_call (e : Int32) (o : Int32) (μ : wM) : Int32 × wM := (if (w_inB e 0 (μ 0 0 - 1)) = true then (if (w_inB o 0 (μ 0 0 - 1)) = true then (if ((e : Int32) = o) then ((-1), μ) else (if (((μ 0 13) : Int32) = 8) then ((-3), μ) else (((μ 0 13) + 1), (w_up (w_up (w_up μ 11 ((μ 0 13) : Int32).toNatClampNeg e) 12 ((μ 0 13) : Int32).toNatClampNeg o) 0 13 ((μ 0 13) + 1))))) else ((-1), μ)) else ((-1), μ))
/-! X8_call -/
def pX8_call (e : Int32) (o : Int32) (μ : wM) : Prop := w_JX μ
def qX8_call (e : Int32) (o : Int32) (μ : wM) (r : Int32) (μ' : wM) : Prop := r = (fX8_call e o μ).1 ∧ μ' = (fX8_call e o μ).2
def sX8_call : wS := (false, false, 3, fun as μ => ∃ e, ∃ o, as = [.ref 0, .int e, .int o] ∧ pX8_call e o μ, fun as μ r μ' => match as with
  | [.ref _, .int e, .int o] => qX8_call e o μ r μ'
  | _ => False)
def gX8_call : Nat → Option wS := fun k => match k with
  | 121 => some sX8_isEvent
  | _ => none
def uX8_call : Nat → Option (List Nat) := fun _ => none
set_option maxHeartbeats 4000000 in
set_option maxRecDepth 100000 in
theorem vcX8_call_0 (K : wK) (R : Int32 → wM → Prop) (e : Int32) (o : Int32) (μ : wM) (h : (
    ((w_inB e 0 (μ 0 0 - 1)) = false → R (-1) μ) ∧
    ((w_inB e 0 (μ 0 0 - 1)) = true → (
      ((w_inB o 0 (μ 0 0 - 1)) = false → R (-1) μ) ∧
      ((w_inB o 0 (μ 0 0 - 1)) = true → (
        (((e : Int32) = o) → R (-1) μ) ∧
        (¬ ((e : Int32) = o) → (
          ((((μ 0 13) : Int32) = 8) → R (-3) μ) ∧
          (¬ (((μ 0 13) : Int32) = 8) → (vp_in (μ 0 13) 8) ∧ R ((μ 0 13) + 1) (w_up (w_up (w_up μ 11 ((μ 0 13) : Int32).toNatClampNeg e) 12 ((μ 0 13) : Int32).toNatClampNeg o) 0 13 ((μ 0 13) + 1))))))))))) : w_n 8 gX8_call shM rfM 32 (some .int) R tX8_call uX8_call K 37 0 [some (.ref 0), some (.int e), some (.int o)] [] μ :=
  And.intro (Exists.intro _ (And.intro rfl (trivial))) (fun _ _ z1327 => by obtain ⟨z1325, z1326⟩ := z1327; have z1325 := z1325.symm; have z1326 := z1326.symm; subst z1325; subst z1326; exact And.intro (fun z1328 => And.intro trivial ((h.1 (w_B01_0.mp z1328)))) (fun z1329 => And.intro (Exists.intro _ (And.intro rfl (trivial))) (fun _ _ z1332 => by obtain ⟨z1330, z1331⟩ := z1332; have z1330 := z1330.symm; have z1331 := z1331.symm; subst z1330; subst z1331; exact And.intro (fun z1333 => And.intro trivial (((h.2 (w_B01_n.mp z1329)).1 (w_B01_0.mp z1333)))) (fun z1334 => And.intro (fun z1335 => And.intro trivial ((((h.2 (w_B01_n.mp z1329)).2 (w_B01_n.mp z1334)).1 z1335))) (fun z1336 => And.intro (And.intro (of_decide_eq_true rfl) rfl) (And.intro (fun z1337 => And.intro trivial (((((h.2 (w_B01_n.mp z1329)).2 (w_B01_n.mp z1334)).2 z1336).1 z1337))) (fun z1338 => And.intro (And.intro (of_decide_eq_true rfl) rfl) (And.intro (And.intro (of_decide_eq_true rfl) rfl) (And.intro (And.intro (of_decide_eq_true rfl) (Exists.intro _ (And.intro rfl (((((h.2 (w_B01_n.mp z1329)).2 (w_B01_n.mp z1334)).2 z1336).2 z1338).1)))) (And.intro (And.intro (of_decide_eq_true rfl) rfl) (And.intro (And.intro (of_decide_eq_true rfl) rfl) (And.intro (And.intro (of_decide_eq_true rfl) (Exists.intro _ (And.intro rfl (((((h.2 (w_B01_n.mp z1329)).2 (w_B01_n.mp z1334)).2 z1336).2 z1338).1)))) (And.intro (And.intro (of_decide_eq_true rfl) rfl) (And.intro (And.intro (of_decide_eq_true rfl) (And.intro rfl (trivial))) (And.intro (And.intro (of_decide_eq_true rfl) rfl) (And.intro trivial (((((h.2 (w_B01_n.mp z1329)).2 (w_B01_n.mp z1334)).2 z1336).2 z1338).2)))))))))))))))))
set_option maxHeartbeats 4000000 in
theorem vX8_call (e : Int32) (o : Int32) (μ : wM) (h : pX8_call e o μ) (K : wK) (hK : w_cl 8 gX8_call shM rfM 32 (some .int) (qX8_call e o μ) tX8_call K) : K 0 [some (.ref 0), some (.int e), some (.int o)] [] μ := by
  refine hK uX8_call 37 _ _ _ _ (vcX8_call_0 K _ e o μ ?_)
  clear hK
  unfold pX8_call at h
  have h0 := h
  unfold w_JX at h
  refine And.intro (fun z64 => ?_) (fun z64 => ?_)
  · unfold qX8_call fX8_call
    rw [if_neg (by rw [z64]; exact Bool.false_ne_true)]
    exact ⟨rfl, rfl⟩
  · refine And.intro (fun z65 => ?_) (fun z65 => ?_)
    · unfold qX8_call fX8_call
      rw [if_pos z64, if_neg (by rw [z65]; exact Bool.false_ne_true)]
      exact ⟨rfl, rfl⟩
    · refine And.intro (fun z66 => ?_) (fun z66 => ?_)
      · unfold qX8_call fX8_call
        rw [if_pos z64, if_pos z65, if_pos z66]
        exact ⟨rfl, rfl⟩
      · refine And.intro (fun z67 => ?_) (fun z67 => ?_)
        · unfold qX8_call fX8_call
          rw [if_pos z64, if_pos z65, if_neg z66, if_pos z67]
          exact ⟨rfl, rfl⟩
        · refine And.intro (by first | exact inM_in h.1 (by assumption) | exact in9 (by assumption) | exact in3 (by assumption) | exact in2 (by assumption) | exact ne8_in h.1 (by assumption) | exact ne8_in h.2.2.1 (by assumption) | exact ne160_in h.2.1 (by assumption) | exact ord_in h.2.2.2.1 (by assumption) | exact h.2.1 | (simp_all; done)) ?_
          unfold qX8_call fX8_call
          rw [if_pos z64, if_pos z65, if_neg z66, if_neg z67]
          exact ⟨rfl, rfl⟩
set_option maxRecDepth 100000 in
theorem zX8_call (l : Launch) : ∀ (idx : Nat) (S : wS), gX8_call idx = some S → w_Call l 8 idx S 3 shM rfM 32 := by
  intro idx S hS
  unfold gX8_call at hS
  split at hS
  · cases hS
    exact w_callV (ci := 8) (mX8_isEvent l) (by decide) rX8_isEvent eX8_isEvent.1 (by decide +kernel) eX8_isEvent.2.1 eX8_isEvent.2.2.1 eX8_isEvent.2.2.2 (by decide +kernel) (by decide) (by decide)
  · cases hS
theorem mX8_call (l : Launch) : w_Met l yX8_call cX8_call 3 (some .int) 3 shM rfM 32 sX8_call.2.2.2.1 sX8_call.2.2.2.2 :=
  w_meth (o := 8) (Γ := gX8_call) (tb := tX8_call) (by decide +kernel) rfl kX8_call rfl (zX8_call l) (fun as μ h => by obtain ⟨e, o, rfl, h⟩ := h; exact Nat.le_of_ble_eq_true rfl) (fun as μ h K hK => by obtain ⟨e, o, rfl, h⟩ := h; exact vX8_call e o μ h K hK)
set_option maxRecDepth 100000 in
theorem eX8_call : Cond.code yX8_call cX8_call 3 (some .int) ∈ w_tbl ∧ Cond.instanceMethod yX8_call ∈ w_tbl ∧ Cond.selects (w_C 8) yX8_call yX8_call ∈ w_tbl ∧ Cond.initialized yX8_call.cls ∈ w_tbl := ⟨by decide +kernel, by decide +kernel, by decide +kernel, by decide +kernel⟩
theorem rX8_call : ∀ as μ, sX8_call.2.2.2.1 as μ → ∃ q as', as = .ref q :: as' ∧ q < 32 ∧ shM q = .inl 8 := by
  intro as μ h
  obtain ⟨e, o, rfl, h⟩ := h
  exact ⟨_, _, rfl, by decide, rfl⟩

def fX8_begins (e : Int32) (μ : wM) : Int32 × wM := (if (((μ 0 18) : Int32) = 0) then ((-1), μ) else (if (w_inB e 0 (μ 0 0 - 1)) = true then (if ((0 : Int32) ≤ (μ 16 (e : Int32).toNatClampNeg)) then ((μ 16 (e : Int32).toNatClampNeg), μ) else ((-2), μ)) else ((-1), μ)))
/-! X8_begins -/
def pX8_begins (e : Int32) (μ : wM) : Prop := w_JX μ
def qX8_begins (e : Int32) (μ : wM) (r : Int32) (μ' : wM) : Prop := r = (fX8_begins e μ).1 ∧ μ' = (fX8_begins e μ).2
def sX8_begins : wS := (false, false, 2, fun as μ => ∃ e, as = [.ref 0, .int e] ∧ pX8_begins e μ, fun as μ r μ' => match as with
  | [.ref _, .int e] => qX8_begins e μ r μ'
  | _ => False)
def gX8_begins : Nat → Option wS := fun k => match k with
  | 121 => some sX8_isEvent
  | _ => none
def uX8_begins : Nat → Option (List Nat) := fun _ => none
set_option maxHeartbeats 4000000 in
set_option maxRecDepth 100000 in
theorem vcX8_begins_0 (K : wK) (R : Int32 → wM → Prop) (e : Int32) (μ : wM) (h : (
    ((((μ 0 18) : Int32) = 0) → R (-1) μ) ∧
    (¬ (((μ 0 18) : Int32) = 0) → (
      ((w_inB e 0 (μ 0 0 - 1)) = false → R (-1) μ) ∧
      ((w_inB e 0 (μ 0 0 - 1)) = true → (vp_in e 8) ∧ (
        (((0 : Int32) ≤ (μ 16 (e : Int32).toNatClampNeg)) → R (μ 16 (e : Int32).toNatClampNeg) μ) ∧
        (¬ ((0 : Int32) ≤ (μ 16 (e : Int32).toNatClampNeg)) → R (-2) μ))))))) : w_n 8 gX8_begins shM rfM 32 (some .int) R tX8_begins uX8_begins K 18 0 [some (.ref 0), some (.int e)] [] μ :=
  And.intro (And.intro (of_decide_eq_true rfl) rfl) (And.intro (fun z1348 => And.intro trivial ((h.1 z1348))) (fun z1349 => And.intro (Exists.intro _ (And.intro rfl (trivial))) (fun _ _ z1352 => by obtain ⟨z1350, z1351⟩ := z1352; have z1350 := z1350.symm; have z1351 := z1351.symm; subst z1350; subst z1351; exact And.intro (fun z1353 => And.intro trivial (((h.2 z1349).1 (w_B01_0.mp z1353)))) (fun z1354 => And.intro (And.intro (of_decide_eq_true rfl) rfl) (And.intro (And.intro (of_decide_eq_true rfl) (Exists.intro _ (And.intro rfl (((h.2 z1349).2 (w_B01_n.mp z1354)).1)))) (And.intro (fun z1355 => And.intro (And.intro (of_decide_eq_true rfl) rfl) (And.intro (And.intro (of_decide_eq_true rfl) (Exists.intro _ (And.intro rfl (((h.2 z1349).2 (w_B01_n.mp z1354)).1)))) (And.intro trivial ((((h.2 z1349).2 (w_B01_n.mp z1354)).2.1 z1355))))) (fun z1356 => And.intro trivial ((((h.2 z1349).2 (w_B01_n.mp z1354)).2.2 z1356)))))))))
set_option maxHeartbeats 4000000 in
theorem vX8_begins (e : Int32) (μ : wM) (h : pX8_begins e μ) (K : wK) (hK : w_cl 8 gX8_begins shM rfM 32 (some .int) (qX8_begins e μ) tX8_begins K) : K 0 [some (.ref 0), some (.int e)] [] μ := by
  refine hK uX8_begins 18 _ _ _ _ (vcX8_begins_0 K _ e μ ?_)
  clear hK
  unfold pX8_begins at h
  have h0 := h
  unfold w_JX at h
  refine And.intro (fun z68 => ?_) (fun z68 => ?_)
  · unfold qX8_begins fX8_begins
    rw [if_pos z68]
    exact ⟨rfl, rfl⟩
  · refine And.intro (fun z69 => ?_) (fun z69 => ?_)
    · unfold qX8_begins fX8_begins
      rw [if_neg z68, if_neg (by rw [z69]; exact Bool.false_ne_true)]
      exact ⟨rfl, rfl⟩
    · refine And.intro (by first | exact inM_in h.1 (by assumption) | exact in9 (by assumption) | exact in3 (by assumption) | exact in2 (by assumption) | exact ne8_in h.1 (by assumption) | exact ne8_in h.2.2.1 (by assumption) | exact ne160_in h.2.1 (by assumption) | exact ord_in h.2.2.2.1 (by assumption) | exact h.2.1 | (simp_all; done)) ?_
      refine And.intro (fun z70 => ?_) (fun z70 => ?_)
      · unfold qX8_begins fX8_begins
        rw [if_neg z68, if_pos z69, if_pos z70]
        exact ⟨rfl, rfl⟩
      · unfold qX8_begins fX8_begins
        rw [if_neg z68, if_pos z69, if_neg z70]
        exact ⟨rfl, rfl⟩
set_option maxRecDepth 100000 in
theorem zX8_begins (l : Launch) : ∀ (idx : Nat) (S : wS), gX8_begins idx = some S → w_Call l 8 idx S 3 shM rfM 32 := by
  intro idx S hS
  unfold gX8_begins at hS
  split at hS
  · cases hS
    exact w_callV (ci := 8) (mX8_isEvent l) (by decide) rX8_isEvent eX8_isEvent.1 (by decide +kernel) eX8_isEvent.2.1 eX8_isEvent.2.2.1 eX8_isEvent.2.2.2 (by decide +kernel) (by decide) (by decide)
  · cases hS
theorem mX8_begins (l : Launch) : w_Met l yX8_begins cX8_begins 2 (some .int) 3 shM rfM 32 sX8_begins.2.2.2.1 sX8_begins.2.2.2.2 :=
  w_meth (o := 8) (Γ := gX8_begins) (tb := tX8_begins) (by decide +kernel) rfl kX8_begins rfl (zX8_begins l) (fun as μ h => by obtain ⟨e, rfl, h⟩ := h; exact Nat.le_of_ble_eq_true rfl) (fun as μ h K hK => by obtain ⟨e, rfl, h⟩ := h; exact vX8_begins e μ h K hK)
set_option maxRecDepth 100000 in
theorem eX8_begins : Cond.code yX8_begins cX8_begins 2 (some .int) ∈ w_tbl ∧ Cond.instanceMethod yX8_begins ∈ w_tbl ∧ Cond.selects (w_C 8) yX8_begins yX8_begins ∈ w_tbl ∧ Cond.initialized yX8_begins.cls ∈ w_tbl := ⟨by decide +kernel, by decide +kernel, by decide +kernel, by decide +kernel⟩
theorem rX8_begins : ∀ as μ, sX8_begins.2.2.2.1 as μ → ∃ q as', as = .ref q :: as' ∧ q < 32 ∧ shM q = .inl 8 := by
  intro as μ h
  obtain ⟨e, rfl, h⟩ := h
  exact ⟨_, _, rfl, by decide, rfl⟩

def fX8_order (i : Int32) (μ : wM) : Int32 × wM := (if ((i : Int32) = (-1)) then ((μ 0 19), μ) else (if (w_inB i 0 ((μ 0 19) - 1)) = true then ((μ 15 (i : Int32).toNatClampNeg), μ) else ((-1), μ)))
/-! X8_order -/
def pX8_order (i : Int32) (μ : wM) : Prop := w_JX μ
def qX8_order (i : Int32) (μ : wM) (r : Int32) (μ' : wM) : Prop := r = (fX8_order i μ).1 ∧ μ' = (fX8_order i μ).2
def sX8_order : wS := (false, false, 2, fun as μ => ∃ i, as = [.ref 0, .int i] ∧ pX8_order i μ, fun as μ r μ' => match as with
  | [.ref _, .int i] => qX8_order i μ r μ'
  | _ => False)
def gX8_order : Nat → Option wS := fun k => match k with
  | 1 => some sX8_in
  | _ => none
def uX8_order : Nat → Option (List Nat) := fun _ => none
set_option maxHeartbeats 4000000 in
set_option maxRecDepth 100000 in
theorem vcX8_order_0 (K : wK) (R : Int32 → wM → Prop) (i : Int32) (μ : wM) (h : (
    (((i : Int32) = (-1)) → R (μ 0 19) μ) ∧
    (¬ ((i : Int32) = (-1)) → (
      ((w_inB i 0 ((μ 0 19) - 1)) = false → R (-1) μ) ∧
      ((w_inB i 0 ((μ 0 19) - 1)) = true → (vp_in i 6) ∧ R (μ 15 (i : Int32).toNatClampNeg) μ))))) : w_n 8 gX8_order shM rfM 32 (some .int) R tX8_order uX8_order K 18 0 [some (.ref 0), some (.int i)] [] μ :=
  And.intro (fun z1364 => And.intro (And.intro (of_decide_eq_true rfl) rfl) (And.intro trivial ((h.1 z1364)))) (fun z1365 => And.intro (And.intro (of_decide_eq_true rfl) rfl) (And.intro (Exists.intro _ (Exists.intro _ (Exists.intro _ (And.intro rfl (trivial))))) (fun _ _ z1368 => by obtain ⟨z1366, z1367⟩ := z1368; have z1366 := z1366.symm; have z1367 := z1367.symm; subst z1366; subst z1367; exact And.intro (fun z1369 => And.intro trivial (((h.2 z1365).1 (w_B01_0.mp z1369)))) (fun z1370 => And.intro (And.intro (of_decide_eq_true rfl) rfl) (And.intro (And.intro (of_decide_eq_true rfl) (Exists.intro _ (And.intro rfl (((h.2 z1365).2 (w_B01_n.mp z1370)).1)))) (And.intro trivial (((h.2 z1365).2 (w_B01_n.mp z1370)).2)))))))
set_option maxHeartbeats 4000000 in
theorem vX8_order (i : Int32) (μ : wM) (h : pX8_order i μ) (K : wK) (hK : w_cl 8 gX8_order shM rfM 32 (some .int) (qX8_order i μ) tX8_order K) : K 0 [some (.ref 0), some (.int i)] [] μ := by
  refine hK uX8_order 18 _ _ _ _ (vcX8_order_0 K _ i μ ?_)
  clear hK
  unfold pX8_order at h
  have h0 := h
  unfold w_JX at h
  refine And.intro (fun z71 => ?_) (fun z71 => ?_)
  · unfold qX8_order fX8_order
    rw [if_pos z71]
    exact ⟨rfl, rfl⟩
  · refine And.intro (fun z72 => ?_) (fun z72 => ?_)
    · unfold qX8_order fX8_order
      rw [if_neg z71, if_neg (by rw [z72]; exact Bool.false_ne_true)]
      exact ⟨rfl, rfl⟩
    · refine And.intro (by first | exact inM_in h.1 (by assumption) | exact in9 (by assumption) | exact in3 (by assumption) | exact in2 (by assumption) | exact ne8_in h.1 (by assumption) | exact ne8_in h.2.2.1 (by assumption) | exact ne160_in h.2.1 (by assumption) | exact ord_in h.2.2.2.1 (by assumption) | exact h.2.1 | (simp_all; done)) ?_
      unfold qX8_order fX8_order
      rw [if_neg z71, if_pos z72]
      exact ⟨rfl, rfl⟩
set_option maxRecDepth 100000 in
theorem zX8_order (l : Launch) : ∀ (idx : Nat) (S : wS), gX8_order idx = some S → w_Call l 8 idx S 2 shM rfM 32 := by
  intro idx S hS
  unfold gX8_order at hS
  split at hS
  · cases hS
    exact w_callS (mX8_in l) eX8_in.1 (by decide +kernel) eX8_in.2.1 eX8_in.2.2 (by decide +kernel) (by decide) (by decide)
  · cases hS
theorem mX8_order (l : Launch) : w_Met l yX8_order cX8_order 2 (some .int) 2 shM rfM 32 sX8_order.2.2.2.1 sX8_order.2.2.2.2 :=
  w_meth (o := 8) (Γ := gX8_order) (tb := tX8_order) (by decide +kernel) rfl kX8_order rfl (zX8_order l) (fun as μ h => by obtain ⟨i, rfl, h⟩ := h; exact Nat.le_of_ble_eq_true rfl) (fun as μ h K hK => by obtain ⟨i, rfl, h⟩ := h; exact vX8_order i μ h K hK)
set_option maxRecDepth 100000 in
theorem eX8_order : Cond.code yX8_order cX8_order 2 (some .int) ∈ w_tbl ∧ Cond.instanceMethod yX8_order ∈ w_tbl ∧ Cond.selects (w_C 8) yX8_order yX8_order ∈ w_tbl ∧ Cond.initialized yX8_order.cls ∈ w_tbl := ⟨by decide +kernel, by decide +kernel, by decide +kernel, by decide +kernel⟩
theorem rX8_order : ∀ as μ, sX8_order.2.2.2.1 as μ → ∃ q as', as = .ref q :: as' ∧ q < 32 ∧ shM q = .inl 8 := by
  intro as μ h
  obtain ⟨i, rfl, h⟩ := h
  exact ⟨_, _, rfl, by decide, rfl⟩

def fX8_stone (e : Int32) (g : Int32) (s : Int32) (μ : wM) : Int32 × wM := (if (w_inB e 0 (μ 0 0 - 1)) = true then (if (w_inB g 1000 30000) = true then (if (w_inB s (-100) 100) = true then (if (((μ 1 (e : Int32).toNatClampNeg) : Int32) = 0) then (1, (w_up (w_up μ 7 (e : Int32).toNatClampNeg g) 8 (e : Int32).toNatClampNeg s)) else ((-12), μ)) else ((-1), μ)) else ((-1), μ)) else ((-1), μ))
/-! X8_stone -/
def pX8_stone (e : Int32) (g : Int32) (s : Int32) (μ : wM) : Prop := w_JX μ
def qX8_stone (e : Int32) (g : Int32) (s : Int32) (μ : wM) (r : Int32) (μ' : wM) : Prop := r = (fX8_stone e g s μ).1 ∧ μ' = (fX8_stone e g s μ).2
def sX8_stone : wS := (false, false, 4, fun as μ => ∃ e, ∃ g, ∃ s, as = [.ref 0, .int e, .int g, .int s] ∧ pX8_stone e g s μ, fun as μ r μ' => match as with
  | [.ref _, .int e, .int g, .int s] => qX8_stone e g s μ r μ'
  | _ => False)
def gX8_stone : Nat → Option wS := fun k => match k with
  | 1 => some sX8_in
  | 121 => some sX8_isEvent
  | _ => none
def uX8_stone : Nat → Option (List Nat) := fun _ => none
set_option maxHeartbeats 4000000 in
set_option maxRecDepth 100000 in
theorem vcX8_stone_0 (K : wK) (R : Int32 → wM → Prop) (e : Int32) (g : Int32) (s : Int32) (μ : wM) (h : (
    ((w_inB e 0 (μ 0 0 - 1)) = false → R (-1) μ) ∧
    ((w_inB e 0 (μ 0 0 - 1)) = true → (
      ((w_inB g 1000 30000) = false → R (-1) μ) ∧
      ((w_inB g 1000 30000) = true → (
        ((w_inB s (-100) 100) = false → R (-1) μ) ∧
        ((w_inB s (-100) 100) = true → (vp_in e 8) ∧ (
          ((((μ 1 (e : Int32).toNatClampNeg) : Int32) = 0) → R 1 (w_up (w_up μ 7 (e : Int32).toNatClampNeg g) 8 (e : Int32).toNatClampNeg s)) ∧
          (¬ (((μ 1 (e : Int32).toNatClampNeg) : Int32) = 0) → R (-12) μ))))))))) : w_n 8 gX8_stone shM rfM 32 (some .int) R tX8_stone uX8_stone K 32 0 [some (.ref 0), some (.int e), some (.int g), some (.int s)] [] μ :=
  And.intro (Exists.intro _ (And.intro rfl (trivial))) (fun _ _ z1390 => by obtain ⟨z1388, z1389⟩ := z1390; have z1388 := z1388.symm; have z1389 := z1389.symm; subst z1388; subst z1389; exact And.intro (fun z1391 => And.intro trivial ((h.1 (w_B01_0.mp z1391)))) (fun z1392 => And.intro (Exists.intro _ (Exists.intro _ (Exists.intro _ (And.intro rfl (trivial))))) (fun _ _ z1395 => by obtain ⟨z1393, z1394⟩ := z1395; have z1393 := z1393.symm; have z1394 := z1394.symm; subst z1393; subst z1394; exact And.intro (fun z1396 => And.intro trivial (((h.2 (w_B01_n.mp z1392)).1 (w_B01_0.mp z1396)))) (fun z1397 => And.intro (Exists.intro _ (Exists.intro _ (Exists.intro _ (And.intro rfl (trivial))))) (fun _ _ z1400 => by obtain ⟨z1398, z1399⟩ := z1400; have z1398 := z1398.symm; have z1399 := z1399.symm; subst z1398; subst z1399; exact And.intro (fun z1401 => And.intro trivial ((((h.2 (w_B01_n.mp z1392)).2 (w_B01_n.mp z1397)).1 (w_B01_0.mp z1401)))) (fun z1402 => And.intro (And.intro (of_decide_eq_true rfl) rfl) (And.intro (And.intro (of_decide_eq_true rfl) (Exists.intro _ (And.intro rfl ((((h.2 (w_B01_n.mp z1392)).2 (w_B01_n.mp z1397)).2 (w_B01_n.mp z1402)).1)))) (And.intro (fun z1403 => And.intro (And.intro (of_decide_eq_true rfl) rfl) (And.intro (And.intro (of_decide_eq_true rfl) (Exists.intro _ (And.intro rfl ((((h.2 (w_B01_n.mp z1392)).2 (w_B01_n.mp z1397)).2 (w_B01_n.mp z1402)).1)))) (And.intro (And.intro (of_decide_eq_true rfl) rfl) (And.intro (And.intro (of_decide_eq_true rfl) (Exists.intro _ (And.intro rfl ((((h.2 (w_B01_n.mp z1392)).2 (w_B01_n.mp z1397)).2 (w_B01_n.mp z1402)).1)))) (And.intro trivial (((((h.2 (w_B01_n.mp z1392)).2 (w_B01_n.mp z1397)).2 (w_B01_n.mp z1402)).2.1 z1403))))))) (fun z1404 => And.intro trivial (((((h.2 (w_B01_n.mp z1392)).2 (w_B01_n.mp z1397)).2 (w_B01_n.mp z1402)).2.2 z1404)))))))))))
set_option maxHeartbeats 4000000 in
theorem vX8_stone (e : Int32) (g : Int32) (s : Int32) (μ : wM) (h : pX8_stone e g s μ) (K : wK) (hK : w_cl 8 gX8_stone shM rfM 32 (some .int) (qX8_stone e g s μ) tX8_stone K) : K 0 [some (.ref 0), some (.int e), some (.int g), some (.int s)] [] μ := by
  refine hK uX8_stone 32 _ _ _ _ (vcX8_stone_0 K _ e g s μ ?_)
  clear hK
  unfold pX8_stone at h
  have h0 := h
  unfold w_JX at h
  refine And.intro (fun z73 => ?_) (fun z73 => ?_)
  · unfold qX8_stone fX8_stone
    rw [if_neg (by rw [z73]; exact Bool.false_ne_true)]
    exact ⟨rfl, rfl⟩
  · refine And.intro (fun z74 => ?_) (fun z74 => ?_)
    · unfold qX8_stone fX8_stone
      rw [if_pos z73, if_neg (by rw [z74]; exact Bool.false_ne_true)]
      exact ⟨rfl, rfl⟩
    · refine And.intro (fun z75 => ?_) (fun z75 => ?_)
      · unfold qX8_stone fX8_stone
        rw [if_pos z73, if_pos z74, if_neg (by rw [z75]; exact Bool.false_ne_true)]
        exact ⟨rfl, rfl⟩
      · refine And.intro (by first | exact inM_in h.1 (by assumption) | exact in9 (by assumption) | exact in3 (by assumption) | exact in2 (by assumption) | exact ne8_in h.1 (by assumption) | exact ne8_in h.2.2.1 (by assumption) | exact ne160_in h.2.1 (by assumption) | exact ord_in h.2.2.2.1 (by assumption) | exact h.2.1 | (simp_all; done)) ?_
        refine And.intro (fun z76 => ?_) (fun z76 => ?_)
        · unfold qX8_stone fX8_stone
          rw [if_pos z73, if_pos z74, if_pos z75, if_pos z76]
          exact ⟨rfl, rfl⟩
        · unfold qX8_stone fX8_stone
          rw [if_pos z73, if_pos z74, if_pos z75, if_neg z76]
          exact ⟨rfl, rfl⟩
set_option maxRecDepth 100000 in
theorem zX8_stone (l : Launch) : ∀ (idx : Nat) (S : wS), gX8_stone idx = some S → w_Call l 8 idx S 3 shM rfM 32 := by
  intro idx S hS
  unfold gX8_stone at hS
  split at hS
  · cases hS
    exact w_callS (mX8_in l) eX8_in.1 (by decide +kernel) eX8_in.2.1 eX8_in.2.2 (by decide +kernel) (by decide) (by decide)
  · cases hS
    exact w_callV (ci := 8) (mX8_isEvent l) (by decide) rX8_isEvent eX8_isEvent.1 (by decide +kernel) eX8_isEvent.2.1 eX8_isEvent.2.2.1 eX8_isEvent.2.2.2 (by decide +kernel) (by decide) (by decide)
  · cases hS
theorem mX8_stone (l : Launch) : w_Met l yX8_stone cX8_stone 4 (some .int) 3 shM rfM 32 sX8_stone.2.2.2.1 sX8_stone.2.2.2.2 :=
  w_meth (o := 8) (Γ := gX8_stone) (tb := tX8_stone) (by decide +kernel) rfl kX8_stone rfl (zX8_stone l) (fun as μ h => by obtain ⟨e, g, s, rfl, h⟩ := h; exact Nat.le_of_ble_eq_true rfl) (fun as μ h K hK => by obtain ⟨e, g, s, rfl, h⟩ := h; exact vX8_stone e g s μ h K hK)
set_option maxRecDepth 100000 in
theorem eX8_stone : Cond.code yX8_stone cX8_stone 4 (some .int) ∈ w_tbl ∧ Cond.instanceMethod yX8_stone ∈ w_tbl ∧ Cond.selects (w_C 8) yX8_stone yX8_stone ∈ w_tbl ∧ Cond.initialized yX8_stone.cls ∈ w_tbl := ⟨by decide +kernel, by decide +kernel, by decide +kernel, by decide +kernel⟩
theorem rX8_stone : ∀ as μ, sX8_stone.2.2.2.1 as μ → ∃ q as', as = .ref q :: as' ∧ q < 32 ∧ shM q = .inl 8 := by
  intro as μ h
  obtain ⟨e, g, s, rfl, h⟩ := h
  exact ⟨_, _, rfl, by decide, rfl⟩

def fX8_way (e : Int32) (y : Int32) (μ : wM) : Int32 × wM := (if (w_inB e 0 (μ 0 0 - 1)) = true then (if (w_inB y 100 2000) = true then (if (((μ 1 (e : Int32).toNatClampNeg) : Int32) = 1) then ((μ 9 (e : Int32).toNatClampNeg), (w_up μ 9 (e : Int32).toNatClampNeg y)) else ((-12), μ)) else ((-1), μ)) else ((-1), μ))
/-! X8_way -/
def pX8_way (e : Int32) (y : Int32) (μ : wM) : Prop := w_JX μ
def qX8_way (e : Int32) (y : Int32) (μ : wM) (r : Int32) (μ' : wM) : Prop := r = (fX8_way e y μ).1 ∧ μ' = (fX8_way e y μ).2
def sX8_way : wS := (false, false, 3, fun as μ => ∃ e, ∃ y, as = [.ref 0, .int e, .int y] ∧ pX8_way e y μ, fun as μ r μ' => match as with
  | [.ref _, .int e, .int y] => qX8_way e y μ r μ'
  | _ => False)
def gX8_way : Nat → Option wS := fun k => match k with
  | 1 => some sX8_in
  | 121 => some sX8_isEvent
  | _ => none
def uX8_way : Nat → Option (List Nat) := fun _ => none
set_option maxHeartbeats 4000000 in
set_option maxRecDepth 100000 in
theorem vcX8_way_0 (K : wK) (R : Int32 → wM → Prop) (e : Int32) (y : Int32) (μ : wM) (h : (
    ((w_inB e 0 (μ 0 0 - 1)) = false → R (-1) μ) ∧
    ((w_inB e 0 (μ 0 0 - 1)) = true → (
      ((w_inB y 100 2000) = false → R (-1) μ) ∧
      ((w_inB y 100 2000) = true → (vp_in e 8) ∧ (
        ((((μ 1 (e : Int32).toNatClampNeg) : Int32) = 1) → R (μ 9 (e : Int32).toNatClampNeg) (w_up μ 9 (e : Int32).toNatClampNeg y)) ∧
        (¬ (((μ 1 (e : Int32).toNatClampNeg) : Int32) = 1) → R (-12) μ))))))) : w_n 8 gX8_way shM rfM 32 (some .int) R tX8_way uX8_way K 28 0 [some (.ref 0), some (.int e), some (.int y), none] [] μ :=
  And.intro (Exists.intro _ (And.intro rfl (trivial))) (fun _ _ z1419 => by obtain ⟨z1417, z1418⟩ := z1419; have z1417 := z1417.symm; have z1418 := z1418.symm; subst z1417; subst z1418; exact And.intro (fun z1420 => And.intro trivial ((h.1 (w_B01_0.mp z1420)))) (fun z1421 => And.intro (Exists.intro _ (Exists.intro _ (Exists.intro _ (And.intro rfl (trivial))))) (fun _ _ z1424 => by obtain ⟨z1422, z1423⟩ := z1424; have z1422 := z1422.symm; have z1423 := z1423.symm; subst z1422; subst z1423; exact And.intro (fun z1425 => And.intro trivial (((h.2 (w_B01_n.mp z1421)).1 (w_B01_0.mp z1425)))) (fun z1426 => And.intro (And.intro (of_decide_eq_true rfl) rfl) (And.intro (And.intro (of_decide_eq_true rfl) (Exists.intro _ (And.intro rfl (((h.2 (w_B01_n.mp z1421)).2 (w_B01_n.mp z1426)).1)))) (And.intro (fun z1427 => And.intro (And.intro (of_decide_eq_true rfl) rfl) (And.intro (And.intro (of_decide_eq_true rfl) (Exists.intro _ (And.intro rfl (((h.2 (w_B01_n.mp z1421)).2 (w_B01_n.mp z1426)).1)))) (And.intro (And.intro (of_decide_eq_true rfl) rfl) (And.intro (And.intro (of_decide_eq_true rfl) (Exists.intro _ (And.intro rfl (((h.2 (w_B01_n.mp z1421)).2 (w_B01_n.mp z1426)).1)))) (And.intro trivial ((((h.2 (w_B01_n.mp z1421)).2 (w_B01_n.mp z1426)).2.1 z1427))))))) (fun z1428 => And.intro trivial ((((h.2 (w_B01_n.mp z1421)).2 (w_B01_n.mp z1426)).2.2 z1428)))))))))
set_option maxHeartbeats 4000000 in
theorem vX8_way (e : Int32) (y : Int32) (μ : wM) (h : pX8_way e y μ) (K : wK) (hK : w_cl 8 gX8_way shM rfM 32 (some .int) (qX8_way e y μ) tX8_way K) : K 0 [some (.ref 0), some (.int e), some (.int y), none] [] μ := by
  refine hK uX8_way 28 _ _ _ _ (vcX8_way_0 K _ e y μ ?_)
  clear hK
  unfold pX8_way at h
  have h0 := h
  unfold w_JX at h
  refine And.intro (fun z77 => ?_) (fun z77 => ?_)
  · unfold qX8_way fX8_way
    rw [if_neg (by rw [z77]; exact Bool.false_ne_true)]
    exact ⟨rfl, rfl⟩
  · refine And.intro (fun z78 => ?_) (fun z78 => ?_)
    · unfold qX8_way fX8_way
      rw [if_pos z77, if_neg (by rw [z78]; exact Bool.false_ne_true)]
      exact ⟨rfl, rfl⟩
    · refine And.intro (by first | exact inM_in h.1 (by assumption) | exact in9 (by assumption) | exact in3 (by assumption) | exact in2 (by assumption) | exact ne8_in h.1 (by assumption) | exact ne8_in h.2.2.1 (by assumption) | exact ne160_in h.2.1 (by assumption) | exact ord_in h.2.2.2.1 (by assumption) | exact h.2.1 | (simp_all; done)) ?_
      refine And.intro (fun z79 => ?_) (fun z79 => ?_)
      · unfold qX8_way fX8_way
        rw [if_pos z77, if_pos z78, if_pos z79]
        exact ⟨rfl, rfl⟩
      · unfold qX8_way fX8_way
        rw [if_pos z77, if_pos z78, if_neg z79]
        exact ⟨rfl, rfl⟩
set_option maxRecDepth 100000 in
theorem zX8_way (l : Launch) : ∀ (idx : Nat) (S : wS), gX8_way idx = some S → w_Call l 8 idx S 3 shM rfM 32 := by
  intro idx S hS
  unfold gX8_way at hS
  split at hS
  · cases hS
    exact w_callS (mX8_in l) eX8_in.1 (by decide +kernel) eX8_in.2.1 eX8_in.2.2 (by decide +kernel) (by decide) (by decide)
  · cases hS
    exact w_callV (ci := 8) (mX8_isEvent l) (by decide) rX8_isEvent eX8_isEvent.1 (by decide +kernel) eX8_isEvent.2.1 eX8_isEvent.2.2.1 eX8_isEvent.2.2.2 (by decide +kernel) (by decide) (by decide)
  · cases hS
theorem mX8_way (l : Launch) : w_Met l yX8_way cX8_way 4 (some .int) 3 shM rfM 32 sX8_way.2.2.2.1 sX8_way.2.2.2.2 :=
  w_meth (o := 8) (Γ := gX8_way) (tb := tX8_way) (by decide +kernel) rfl kX8_way rfl (zX8_way l) (fun as μ h => by obtain ⟨e, y, rfl, h⟩ := h; exact Nat.le_of_ble_eq_true rfl) (fun as μ h K hK => by obtain ⟨e, y, rfl, h⟩ := h; exact vX8_way e y μ h K hK)
set_option maxRecDepth 100000 in
theorem eX8_way : Cond.code yX8_way cX8_way 4 (some .int) ∈ w_tbl ∧ Cond.instanceMethod yX8_way ∈ w_tbl ∧ Cond.selects (w_C 8) yX8_way yX8_way ∈ w_tbl ∧ Cond.initialized yX8_way.cls ∈ w_tbl := ⟨by decide +kernel, by decide +kernel, by decide +kernel, by decide +kernel⟩
theorem rX8_way : ∀ as μ, sX8_way.2.2.2.1 as μ → ∃ q as', as = .ref q :: as' ∧ q < 32 ∧ shM q = .inl 8 := by
  intro as μ h
  obtain ⟨e, y, rfl, h⟩ := h
  exact ⟨_, _, rfl, by decide, rfl⟩

def fX8_yards (x : Int32) (y : Int32) (μ : wM) : Int32 × wM := (if (w_inB x 0 9) = true then (if (w_inB y (-50) 50) = true then ((μ 10 (x : Int32).toNatClampNeg), (w_up μ 10 (x : Int32).toNatClampNeg y)) else ((-1001), μ)) else ((-1001), μ))
/-! X8_yards -/
def pX8_yards (x : Int32) (y : Int32) (μ : wM) : Prop := w_JX μ
def qX8_yards (x : Int32) (y : Int32) (μ : wM) (r : Int32) (μ' : wM) : Prop := r = (fX8_yards x y μ).1 ∧ μ' = (fX8_yards x y μ).2
def sX8_yards : wS := (false, false, 3, fun as μ => ∃ x, ∃ y, as = [.ref 0, .int x, .int y] ∧ pX8_yards x y μ, fun as μ r μ' => match as with
  | [.ref _, .int x, .int y] => qX8_yards x y μ r μ'
  | _ => False)
def gX8_yards : Nat → Option wS := fun k => match k with
  | 1 => some sX8_in
  | 125 => some sX8_isMan
  | _ => none
def uX8_yards : Nat → Option (List Nat) := fun _ => none
set_option maxHeartbeats 4000000 in
set_option maxRecDepth 100000 in
theorem vcX8_yards_0 (K : wK) (R : Int32 → wM → Prop) (x : Int32) (y : Int32) (μ : wM) (h : (
    ((w_inB x 0 9) = false → R (-1001) μ) ∧
    ((w_inB x 0 9) = true → (
      ((w_inB y (-50) 50) = false → R (-1001) μ) ∧
      ((w_inB y (-50) 50) = true → (vp_in x 10) ∧ R (μ 10 (x : Int32).toNatClampNeg) (w_up μ 10 (x : Int32).toNatClampNeg y)))))) : w_n 8 gX8_yards shM rfM 32 (some .int) R tX8_yards uX8_yards K 21 0 [some (.ref 0), some (.int x), some (.int y), none] [] μ :=
  And.intro (Exists.intro _ (And.intro rfl (trivial))) (fun _ _ z1441 => by obtain ⟨z1439, z1440⟩ := z1441; have z1439 := z1439.symm; have z1440 := z1440.symm; subst z1439; subst z1440; exact And.intro (fun z1442 => And.intro trivial ((h.1 (w_B01_0.mp z1442)))) (fun z1443 => And.intro (Exists.intro _ (Exists.intro _ (Exists.intro _ (And.intro rfl (trivial))))) (fun _ _ z1446 => by obtain ⟨z1444, z1445⟩ := z1446; have z1444 := z1444.symm; have z1445 := z1445.symm; subst z1444; subst z1445; exact And.intro (fun z1447 => And.intro trivial (((h.2 (w_B01_n.mp z1443)).1 (w_B01_0.mp z1447)))) (fun z1448 => And.intro (And.intro (of_decide_eq_true rfl) rfl) (And.intro (And.intro (of_decide_eq_true rfl) (Exists.intro _ (And.intro rfl (((h.2 (w_B01_n.mp z1443)).2 (w_B01_n.mp z1448)).1)))) (And.intro (And.intro (of_decide_eq_true rfl) rfl) (And.intro (And.intro (of_decide_eq_true rfl) (Exists.intro _ (And.intro rfl (((h.2 (w_B01_n.mp z1443)).2 (w_B01_n.mp z1448)).1)))) (And.intro trivial (((h.2 (w_B01_n.mp z1443)).2 (w_B01_n.mp z1448)).2)))))))))
set_option maxHeartbeats 4000000 in
theorem vX8_yards (x : Int32) (y : Int32) (μ : wM) (h : pX8_yards x y μ) (K : wK) (hK : w_cl 8 gX8_yards shM rfM 32 (some .int) (qX8_yards x y μ) tX8_yards K) : K 0 [some (.ref 0), some (.int x), some (.int y), none] [] μ := by
  refine hK uX8_yards 21 _ _ _ _ (vcX8_yards_0 K _ x y μ ?_)
  clear hK
  unfold pX8_yards at h
  have h0 := h
  unfold w_JX at h
  refine And.intro (fun z80 => ?_) (fun z80 => ?_)
  · unfold qX8_yards fX8_yards
    rw [if_neg (by rw [z80]; exact Bool.false_ne_true)]
    exact ⟨rfl, rfl⟩
  · refine And.intro (fun z81 => ?_) (fun z81 => ?_)
    · unfold qX8_yards fX8_yards
      rw [if_pos z80, if_neg (by rw [z81]; exact Bool.false_ne_true)]
      exact ⟨rfl, rfl⟩
    · refine And.intro (by first | exact inM_in h.1 (by assumption) | exact in9 (by assumption) | exact in3 (by assumption) | exact in2 (by assumption) | exact ne8_in h.1 (by assumption) | exact ne8_in h.2.2.1 (by assumption) | exact ne160_in h.2.1 (by assumption) | exact ord_in h.2.2.2.1 (by assumption) | exact h.2.1 | (simp_all; done)) ?_
      unfold qX8_yards fX8_yards
      rw [if_pos z80, if_pos z81]
      exact ⟨rfl, rfl⟩
set_option maxRecDepth 100000 in
theorem zX8_yards (l : Launch) : ∀ (idx : Nat) (S : wS), gX8_yards idx = some S → w_Call l 8 idx S 3 shM rfM 32 := by
  intro idx S hS
  unfold gX8_yards at hS
  split at hS
  · cases hS
    exact w_callS (mX8_in l) eX8_in.1 (by decide +kernel) eX8_in.2.1 eX8_in.2.2 (by decide +kernel) (by decide) (by decide)
  · cases hS
    exact w_callS (mX8_isMan l) eX8_isMan.1 (by decide +kernel) eX8_isMan.2.1 eX8_isMan.2.2 (by decide +kernel) (by decide) (by decide)
  · cases hS
theorem mX8_yards (l : Launch) : w_Met l yX8_yards cX8_yards 4 (some .int) 3 shM rfM 32 sX8_yards.2.2.2.1 sX8_yards.2.2.2.2 :=
  w_meth (o := 8) (Γ := gX8_yards) (tb := tX8_yards) (by decide +kernel) rfl kX8_yards rfl (zX8_yards l) (fun as μ h => by obtain ⟨x, y, rfl, h⟩ := h; exact Nat.le_of_ble_eq_true rfl) (fun as μ h K hK => by obtain ⟨x, y, rfl, h⟩ := h; exact vX8_yards x y μ h K hK)
set_option maxRecDepth 100000 in
theorem eX8_yards : Cond.code yX8_yards cX8_yards 4 (some .int) ∈ w_tbl ∧ Cond.instanceMethod yX8_yards ∈ w_tbl ∧ Cond.selects (w_C 8) yX8_yards yX8_yards ∈ w_tbl ∧ Cond.initialized yX8_yards.cls ∈ w_tbl := ⟨by decide +kernel, by decide +kernel, by decide +kernel, by decide +kernel⟩
theorem rX8_yards : ∀ as μ, sX8_yards.2.2.2.1 as μ → ∃ q as', as = .ref q :: as' ∧ q < 32 ∧ shM q = .inl 8 := by
  intro as μ h
  obtain ⟨x, y, rfl, h⟩ := h
  exact ⟨_, _, rfl, by decide, rfl⟩

def fX8_drop (s : Int32) (μ : wM) : Int32 × wM := (if (w_inB s 0 3) = true then (if ((0 : Int32) ≤ (μ 21 (s : Int32).toNatClampNeg)) then ((μ 22 (s : Int32).toNatClampNeg), (w_up μ 21 (s : Int32).toNatClampNeg (-1))) else ((-11), μ)) else ((-1), μ))
/-! X8_drop -/
def pX8_drop (s : Int32) (μ : wM) : Prop := w_JX μ
def qX8_drop (s : Int32) (μ : wM) (r : Int32) (μ' : wM) : Prop := r = (fX8_drop s μ).1 ∧ μ' = (fX8_drop s μ).2
def sX8_drop : wS := (false, false, 2, fun as μ => ∃ s, as = [.ref 0, .int s] ∧ pX8_drop s μ, fun as μ r μ' => match as with
  | [.ref _, .int s] => qX8_drop s μ r μ'
  | _ => False)
def gX8_drop : Nat → Option wS := fun k => match k with
  | 170 => some sX8_isSheet
  | _ => none
def uX8_drop : Nat → Option (List Nat) := fun _ => none
set_option maxHeartbeats 4000000 in
set_option maxRecDepth 100000 in
theorem vcX8_drop_0 (K : wK) (R : Int32 → wM → Prop) (s : Int32) (μ : wM) (h : (
    ((w_inB s 0 3) = false → R (-1) μ) ∧
    ((w_inB s 0 3) = true → (vp_in s 4) ∧ (
      (((0 : Int32) ≤ (μ 21 (s : Int32).toNatClampNeg)) → R (μ 22 (s : Int32).toNatClampNeg) (w_up μ 21 (s : Int32).toNatClampNeg (-1))) ∧
      (¬ ((0 : Int32) ≤ (μ 21 (s : Int32).toNatClampNeg)) → R (-11) μ))))) : w_n 8 gX8_drop shM rfM 32 (some .int) R tX8_drop uX8_drop K 19 0 [some (.ref 0), some (.int s)] [] μ :=
  And.intro (Exists.intro _ (And.intro rfl (trivial))) (fun _ _ z1458 => by obtain ⟨z1456, z1457⟩ := z1458; have z1456 := z1456.symm; have z1457 := z1457.symm; subst z1456; subst z1457; exact And.intro (fun z1459 => And.intro trivial ((h.1 (w_B01_0.mp z1459)))) (fun z1460 => And.intro (And.intro (of_decide_eq_true rfl) rfl) (And.intro (And.intro (of_decide_eq_true rfl) (Exists.intro _ (And.intro rfl ((h.2 (w_B01_n.mp z1460)).1)))) (And.intro (fun z1461 => And.intro (And.intro (of_decide_eq_true rfl) rfl) (And.intro (And.intro (of_decide_eq_true rfl) (Exists.intro _ (And.intro rfl ((h.2 (w_B01_n.mp z1460)).1)))) (And.intro (And.intro (of_decide_eq_true rfl) rfl) (And.intro (And.intro (of_decide_eq_true rfl) (Exists.intro _ (And.intro rfl ((h.2 (w_B01_n.mp z1460)).1)))) (And.intro trivial (((h.2 (w_B01_n.mp z1460)).2.1 z1461))))))) (fun z1462 => And.intro trivial (((h.2 (w_B01_n.mp z1460)).2.2 z1462)))))))
set_option maxHeartbeats 4000000 in
theorem vX8_drop (s : Int32) (μ : wM) (h : pX8_drop s μ) (K : wK) (hK : w_cl 8 gX8_drop shM rfM 32 (some .int) (qX8_drop s μ) tX8_drop K) : K 0 [some (.ref 0), some (.int s)] [] μ := by
  refine hK uX8_drop 19 _ _ _ _ (vcX8_drop_0 K _ s μ ?_)
  clear hK
  unfold pX8_drop at h
  have h0 := h
  unfold w_JX at h
  refine And.intro (fun z82 => ?_) (fun z82 => ?_)
  · unfold qX8_drop fX8_drop
    rw [if_neg (by rw [z82]; exact Bool.false_ne_true)]
    exact ⟨rfl, rfl⟩
  · refine And.intro (by first | exact inM_in h.1 (by assumption) | exact in9 (by assumption) | exact in3 (by assumption) | exact in2 (by assumption) | exact ne8_in h.1 (by assumption) | exact ne8_in h.2.2.1 (by assumption) | exact ne160_in h.2.1 (by assumption) | exact ord_in h.2.2.2.1 (by assumption) | exact h.2.1 | (simp_all; done)) ?_
    refine And.intro (fun z83 => ?_) (fun z83 => ?_)
    · unfold qX8_drop fX8_drop
      rw [if_pos z82, if_pos z83]
      exact ⟨rfl, rfl⟩
    · unfold qX8_drop fX8_drop
      rw [if_pos z82, if_neg z83]
      exact ⟨rfl, rfl⟩
set_option maxRecDepth 100000 in
theorem zX8_drop (l : Launch) : ∀ (idx : Nat) (S : wS), gX8_drop idx = some S → w_Call l 8 idx S 3 shM rfM 32 := by
  intro idx S hS
  unfold gX8_drop at hS
  split at hS
  · cases hS
    exact w_callS (mX8_isSheet l) eX8_isSheet.1 (by decide +kernel) eX8_isSheet.2.1 eX8_isSheet.2.2 (by decide +kernel) (by decide) (by decide)
  · cases hS
theorem mX8_drop (l : Launch) : w_Met l yX8_drop cX8_drop 2 (some .int) 3 shM rfM 32 sX8_drop.2.2.2.1 sX8_drop.2.2.2.2 :=
  w_meth (o := 8) (Γ := gX8_drop) (tb := tX8_drop) (by decide +kernel) rfl kX8_drop rfl (zX8_drop l) (fun as μ h => by obtain ⟨s, rfl, h⟩ := h; exact Nat.le_of_ble_eq_true rfl) (fun as μ h K hK => by obtain ⟨s, rfl, h⟩ := h; exact vX8_drop s μ h K hK)
set_option maxRecDepth 100000 in
theorem eX8_drop : Cond.code yX8_drop cX8_drop 2 (some .int) ∈ w_tbl ∧ Cond.instanceMethod yX8_drop ∈ w_tbl ∧ Cond.selects (w_C 8) yX8_drop yX8_drop ∈ w_tbl ∧ Cond.initialized yX8_drop.cls ∈ w_tbl := ⟨by decide +kernel, by decide +kernel, by decide +kernel, by decide +kernel⟩
theorem rX8_drop : ∀ as μ, sX8_drop.2.2.2.1 as μ → ∃ q as', as = .ref q :: as' ∧ q < 32 ∧ shM q = .inl 8 := by
  intro as μ h
  obtain ⟨s, rfl, h⟩ := h
  exact ⟨_, _, rfl, by decide, rfl⟩

def fX8_fail (e : Int32) (i : Int32) (μ : wM) : Int32 × wM := (if (w_inB e 0 (μ 0 0 - 1)) = true then (if (((μ 6 (e : Int32).toNatClampNeg) : Int32) = 0) then (0, (w_up μ 6 (e : Int32).toNatClampNeg i)) else (1, (w_up μ 6 (e : Int32).toNatClampNeg i))) else ((-1), μ))
/-! X8_fail -/
def pX8_fail (e : Int32) (i : Int32) (μ : wM) : Prop := w_JX μ ∧ w_bit i
def qX8_fail (e : Int32) (i : Int32) (μ : wM) (r : Int32) (μ' : wM) : Prop := r = (fX8_fail e i μ).1 ∧ μ' = (fX8_fail e i μ).2
def sX8_fail : wS := (false, false, 3, fun as μ => ∃ e, ∃ i, as = [.ref 0, .int e, .int i] ∧ pX8_fail e i μ, fun as μ r μ' => match as with
  | [.ref _, .int e, .int i] => qX8_fail e i μ r μ'
  | _ => False)
def gX8_fail : Nat → Option wS := fun k => match k with
  | 121 => some sX8_isEvent
  | _ => none
def uX8_fail : Nat → Option (List Nat) := fun _ => none
set_option maxHeartbeats 4000000 in
set_option maxRecDepth 100000 in
theorem vcX8_fail_0 (K : wK) (R : Int32 → wM → Prop) (e : Int32) (i : Int32) (μ : wM) (h : (
    ((w_inB e 0 (μ 0 0 - 1)) = false → R (-1) μ) ∧
    ((w_inB e 0 (μ 0 0 - 1)) = true → (vp_in e 8) ∧ (w_bit i) ∧ (
      ((((μ 6 (e : Int32).toNatClampNeg) : Int32) = 0) → R 0 (w_up μ 6 (e : Int32).toNatClampNeg i)) ∧
      (¬ (((μ 6 (e : Int32).toNatClampNeg) : Int32) = 0) → R 1 (w_up μ 6 (e : Int32).toNatClampNeg i)))))) : w_n 8 gX8_fail shM rfM 32 (some .int) R tX8_fail uX8_fail K 20 0 [some (.ref 0), some (.int e), some (.int i), none] [] μ :=
  And.intro (Exists.intro _ (And.intro rfl (trivial))) (fun _ _ z1472 => by obtain ⟨z1470, z1471⟩ := z1472; have z1470 := z1470.symm; have z1471 := z1471.symm; subst z1470; subst z1471; exact And.intro (fun z1473 => And.intro trivial ((h.1 (w_B01_0.mp z1473)))) (fun z1474 => And.intro (And.intro (of_decide_eq_true rfl) rfl) (And.intro (And.intro (of_decide_eq_true rfl) (Exists.intro _ (And.intro rfl ((h.2 (w_B01_n.mp z1474)).1)))) (And.intro (And.intro (of_decide_eq_true rfl) rfl) (And.intro (And.intro (And.intro (of_decide_eq_true rfl) (Exists.intro _ (And.intro rfl ((h.2 (w_B01_n.mp z1474)).1)))) (((h.2 (w_B01_n.mp z1474)).2.1))) (And.intro (fun z1475 => And.intro trivial (((h.2 (w_B01_n.mp z1474)).2.2.1 z1475))) (fun z1476 => And.intro trivial (((h.2 (w_B01_n.mp z1474)).2.2.2 z1476)))))))))
set_option maxHeartbeats 4000000 in
theorem vX8_fail (e : Int32) (i : Int32) (μ : wM) (h : pX8_fail e i μ) (K : wK) (hK : w_cl 8 gX8_fail shM rfM 32 (some .int) (qX8_fail e i μ) tX8_fail K) : K 0 [some (.ref 0), some (.int e), some (.int i), none] [] μ := by
  refine hK uX8_fail 20 _ _ _ _ (vcX8_fail_0 K _ e i μ ?_)
  clear hK
  unfold pX8_fail at h
  have h0 := h
  unfold w_JX at h
  refine And.intro (fun z84 => ?_) (fun z84 => ?_)
  · unfold qX8_fail fX8_fail
    rw [if_neg (by rw [z84]; exact Bool.false_ne_true)]
    exact ⟨rfl, rfl⟩
  · refine And.intro (by first | exact inM_in h.1.1 (by assumption) | exact in9 (by assumption) | exact in3 (by assumption) | exact in2 (by assumption) | exact ne8_in h.1.1 (by assumption) | exact ne8_in h.1.2.2.1 (by assumption) | exact ne160_in h.1.2.1 (by assumption) | exact ord_in h.1.2.2.2.1 (by assumption) | exact h.1.2.1 | (simp_all; done)) ?_
    refine And.intro (by first | exact inM_in h.1.1 (by assumption) | exact in9 (by assumption) | exact in3 (by assumption) | exact in2 (by assumption) | exact ne8_in h.1.1 (by assumption) | exact ne8_in h.1.2.2.1 (by assumption) | exact ne160_in h.1.2.1 (by assumption) | exact ord_in h.1.2.2.2.1 (by assumption) | exact h.1.2.1 | (simp_all; done)) ?_
    refine And.intro (fun z85 => ?_) (fun z85 => ?_)
    · unfold qX8_fail fX8_fail
      rw [if_pos z84, if_pos z85]
      exact ⟨rfl, rfl⟩
    · unfold qX8_fail fX8_fail
      rw [if_pos z84, if_neg z85]
      exact ⟨rfl, rfl⟩
set_option maxRecDepth 100000 in
theorem zX8_fail (l : Launch) : ∀ (idx : Nat) (S : wS), gX8_fail idx = some S → w_Call l 8 idx S 3 shM rfM 32 := by
  intro idx S hS
  unfold gX8_fail at hS
  split at hS
  · cases hS
    exact w_callV (ci := 8) (mX8_isEvent l) (by decide) rX8_isEvent eX8_isEvent.1 (by decide +kernel) eX8_isEvent.2.1 eX8_isEvent.2.2.1 eX8_isEvent.2.2.2 (by decide +kernel) (by decide) (by decide)
  · cases hS
theorem mX8_fail (l : Launch) : w_Met l yX8_fail cX8_fail 4 (some .int) 3 shM rfM 32 sX8_fail.2.2.2.1 sX8_fail.2.2.2.2 :=
  w_meth (o := 8) (Γ := gX8_fail) (tb := tX8_fail) (by decide +kernel) rfl kX8_fail rfl (zX8_fail l) (fun as μ h => by obtain ⟨e, i, rfl, h⟩ := h; exact Nat.le_of_ble_eq_true rfl) (fun as μ h K hK => by obtain ⟨e, i, rfl, h⟩ := h; exact vX8_fail e i μ h K hK)
set_option maxRecDepth 100000 in
theorem eX8_fail : Cond.code yX8_fail cX8_fail 4 (some .int) ∈ w_tbl ∧ Cond.instanceMethod yX8_fail ∈ w_tbl ∧ Cond.selects (w_C 8) yX8_fail yX8_fail ∈ w_tbl ∧ Cond.initialized yX8_fail.cls ∈ w_tbl := ⟨by decide +kernel, by decide +kernel, by decide +kernel, by decide +kernel⟩
theorem rX8_fail : ∀ as μ, sX8_fail.2.2.2.1 as μ → ∃ q as', as = .ref q :: as' ∧ q < 32 ∧ shM q = .inl 8 := by
  intro as μ h
  obtain ⟨e, i, rfl, h⟩ := h
  exact ⟨_, _, rfl, by decide, rfl⟩

def fX8_purse (e : Int32) (p : Int32) (μ : wM) : Int32 × wM := (if (w_inB e 0 (μ 0 0 - 1)) = true then (if (w_inB p 0 100000) = true then ((μ 5 (e : Int32).toNatClampNeg), (w_up μ 5 (e : Int32).toNatClampNeg p)) else ((-1), μ)) else ((-1), μ))
/-! X8_purse -/
def pX8_purse (e : Int32) (p : Int32) (μ : wM) : Prop := w_JX μ
def qX8_purse (e : Int32) (p : Int32) (μ : wM) (r : Int32) (μ' : wM) : Prop := r = (fX8_purse e p μ).1 ∧ μ' = (fX8_purse e p μ).2
def sX8_purse : wS := (false, false, 3, fun as μ => ∃ e, ∃ p, as = [.ref 0, .int e, .int p] ∧ pX8_purse e p μ, fun as μ r μ' => match as with
  | [.ref _, .int e, .int p] => qX8_purse e p μ r μ'
  | _ => False)
def gX8_purse : Nat → Option wS := fun k => match k with
  | 1 => some sX8_in
  | 121 => some sX8_isEvent
  | _ => none
def uX8_purse : Nat → Option (List Nat) := fun _ => none
set_option maxHeartbeats 4000000 in
set_option maxRecDepth 100000 in
theorem vcX8_purse_0 (K : wK) (R : Int32 → wM → Prop) (e : Int32) (p : Int32) (μ : wM) (h : (
    ((w_inB e 0 (μ 0 0 - 1)) = false → R (-1) μ) ∧
    ((w_inB e 0 (μ 0 0 - 1)) = true → (
      ((w_inB p 0 100000) = false → R (-1) μ) ∧
      ((w_inB p 0 100000) = true → (vp_in e 8) ∧ R (μ 5 (e : Int32).toNatClampNeg) (w_up μ 5 (e : Int32).toNatClampNeg p)))))) : w_n 8 gX8_purse shM rfM 32 (some .int) R tX8_purse uX8_purse K 22 0 [some (.ref 0), some (.int e), some (.int p), none] [] μ :=
  And.intro (Exists.intro _ (And.intro rfl (trivial))) (fun _ _ z1489 => by obtain ⟨z1487, z1488⟩ := z1489; have z1487 := z1487.symm; have z1488 := z1488.symm; subst z1487; subst z1488; exact And.intro (fun z1490 => And.intro trivial ((h.1 (w_B01_0.mp z1490)))) (fun z1491 => And.intro (Exists.intro _ (Exists.intro _ (Exists.intro _ (And.intro rfl (trivial))))) (fun _ _ z1494 => by obtain ⟨z1492, z1493⟩ := z1494; have z1492 := z1492.symm; have z1493 := z1493.symm; subst z1492; subst z1493; exact And.intro (fun z1495 => And.intro trivial (((h.2 (w_B01_n.mp z1491)).1 (w_B01_0.mp z1495)))) (fun z1496 => And.intro (And.intro (of_decide_eq_true rfl) rfl) (And.intro (And.intro (of_decide_eq_true rfl) (Exists.intro _ (And.intro rfl (((h.2 (w_B01_n.mp z1491)).2 (w_B01_n.mp z1496)).1)))) (And.intro (And.intro (of_decide_eq_true rfl) rfl) (And.intro (And.intro (of_decide_eq_true rfl) (Exists.intro _ (And.intro rfl (((h.2 (w_B01_n.mp z1491)).2 (w_B01_n.mp z1496)).1)))) (And.intro trivial (((h.2 (w_B01_n.mp z1491)).2 (w_B01_n.mp z1496)).2)))))))))
set_option maxHeartbeats 4000000 in
theorem vX8_purse (e : Int32) (p : Int32) (μ : wM) (h : pX8_purse e p μ) (K : wK) (hK : w_cl 8 gX8_purse shM rfM 32 (some .int) (qX8_purse e p μ) tX8_purse K) : K 0 [some (.ref 0), some (.int e), some (.int p), none] [] μ := by
  refine hK uX8_purse 22 _ _ _ _ (vcX8_purse_0 K _ e p μ ?_)
  clear hK
  unfold pX8_purse at h
  have h0 := h
  unfold w_JX at h
  refine And.intro (fun z86 => ?_) (fun z86 => ?_)
  · unfold qX8_purse fX8_purse
    rw [if_neg (by rw [z86]; exact Bool.false_ne_true)]
    exact ⟨rfl, rfl⟩
  · refine And.intro (fun z87 => ?_) (fun z87 => ?_)
    · unfold qX8_purse fX8_purse
      rw [if_pos z86, if_neg (by rw [z87]; exact Bool.false_ne_true)]
      exact ⟨rfl, rfl⟩
    · refine And.intro (by first | exact inM_in h.1 (by assumption) | exact in9 (by assumption) | exact in3 (by assumption) | exact in2 (by assumption) | exact ne8_in h.1 (by assumption) | exact ne8_in h.2.2.1 (by assumption) | exact ne160_in h.2.1 (by assumption) | exact ord_in h.2.2.2.1 (by assumption) | exact h.2.1 | (simp_all; done)) ?_
      unfold qX8_purse fX8_purse
      rw [if_pos z86, if_pos z87]
      exact ⟨rfl, rfl⟩
set_option maxRecDepth 100000 in
theorem zX8_purse (l : Launch) : ∀ (idx : Nat) (S : wS), gX8_purse idx = some S → w_Call l 8 idx S 3 shM rfM 32 := by
  intro idx S hS
  unfold gX8_purse at hS
  split at hS
  · cases hS
    exact w_callS (mX8_in l) eX8_in.1 (by decide +kernel) eX8_in.2.1 eX8_in.2.2 (by decide +kernel) (by decide) (by decide)
  · cases hS
    exact w_callV (ci := 8) (mX8_isEvent l) (by decide) rX8_isEvent eX8_isEvent.1 (by decide +kernel) eX8_isEvent.2.1 eX8_isEvent.2.2.1 eX8_isEvent.2.2.2 (by decide +kernel) (by decide) (by decide)
  · cases hS
theorem mX8_purse (l : Launch) : w_Met l yX8_purse cX8_purse 4 (some .int) 3 shM rfM 32 sX8_purse.2.2.2.1 sX8_purse.2.2.2.2 :=
  w_meth (o := 8) (Γ := gX8_purse) (tb := tX8_purse) (by decide +kernel) rfl kX8_purse rfl (zX8_purse l) (fun as μ h => by obtain ⟨e, p, rfl, h⟩ := h; exact Nat.le_of_ble_eq_true rfl) (fun as μ h K hK => by obtain ⟨e, p, rfl, h⟩ := h; exact vX8_purse e p μ h K hK)
set_option maxRecDepth 100000 in
theorem eX8_purse : Cond.code yX8_purse cX8_purse 4 (some .int) ∈ w_tbl ∧ Cond.instanceMethod yX8_purse ∈ w_tbl ∧ Cond.selects (w_C 8) yX8_purse yX8_purse ∈ w_tbl ∧ Cond.initialized yX8_purse.cls ∈ w_tbl := ⟨by decide +kernel, by decide +kernel, by decide +kernel, by decide +kernel⟩
theorem rX8_purse : ∀ as μ, sX8_purse.2.2.2.1 as μ → ∃ q as', as = .ref q :: as' ∧ q < 32 ∧ shM q = .inl 8 := by
  intro as μ h
  obtain ⟨e, p, rfl, h⟩ := h
  exact ⟨_, _, rfl, by decide, rfl⟩
