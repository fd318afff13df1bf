theorem g_all_cg {D : wD} {e s : Nat} {b b' : Nat → Nat} : ∀ pre : List Nat, (∀ o, o ∈ pre → b o = b' o) → g_all D e pre b s = g_all D e pre b' s := by
  intro pre
  induction pre with
  | nil => intro _; rfl
  | cons o pre ih =>
    intro h
    show (goN D e s o (b o) && g_all D e pre b s) = (goN D e s o (b' o) && g_all D e pre b' s)
    rw [h o List.mem_cons_self, ih (fun o' h' => h o' (List.mem_cons_of_mem _ h'))]
theorem ffN_cg {D : wD} {e : Nat} {b b' : Nat → Nat} {pre : List Nat} (h : ∀ o, o ∈ pre → b o = b' o) : ffN D e pre b = ffN D e pre b' := by
  unfold ffN
  rw [show g_all D e pre b = g_all D e pre b' from funext (fun s => g_all_cg pre h)]
theorem ffN_le {D : wD} {e : Nat} {b : Nat → Nat} {pre : List Nat} (h : D.len < 61) : ffN D e pre b ≤ 1000 := by
  unfold ffN
  rcases w_ft_cases (g_all D e pre b) D.len 0 with ⟨h1, -⟩ | ⟨-, h2, -⟩ <;> omega
theorem dX_cg {μ ν : wM} (h : ∀ a, a ≠ 1 → a ≠ 9 → a ≠ 10 → a ≠ 12 → a ≠ 13 → ν a = μ a) (h1 : ∀ j, j ≠ 7 → j ≠ 9 → ν 1 j = μ 1 j) : dX ν = dX μ := by
  unfold dX
  rw [h 11 (by decide) (by decide) (by decide) (by decide) (by decide), h1 2 (by decide) (by decide), h1 3 (by decide) (by decide)]
  have e3 : ∀ e k : Nat, ν (e + 27) k = μ (e + 27) k := fun e k => by rw [h (e + 27) (by omega) (by omega) (by omega) (by omega) (by omega)]
  simp only [e3]
theorem w_LY.cg {μ ν : wM} (hL : w_LY μ) (h : ∀ a, a ≠ 1 → a ≠ 9 → a ≠ 10 → a ≠ 12 → a ≠ 13 → ν a = μ a) (h1 : ∀ j, j ≠ 7 → j ≠ 9 → ν 1 j = μ 1 j) : w_LY ν := by
  refine ⟨fun e he => by rw [h (e + 27) (by omega) (by omega) (by omega) (by omega) (by omega)]; exact hL.1 e he, by rw [h1 2 (by decide) (by decide)]; exact hL.2.1, by rw [h1 3 (by decide) (by decide)]; exact hL.2.2⟩
def w_pre (μ : wM) (b N : Nat) : Prop := ∀ i, i < N → vp_in (μ 12 i) 8 ∧ vp_in (μ 13 (μ 12 i).toNatClampNeg) 61 ∧ b.testBit (μ 12 i).toNatClampNeg = false
def w_fS (μ μ' : wM) (N : Nat) : Prop := (∀ a, a ≠ 1 → a ≠ 9 → a ≠ 10 → a ≠ 12 → a ≠ 13 → μ' a = μ a) ∧ (∀ j, j ≠ 7 → j ≠ 9 → μ' 1 j = μ 1 j) ∧ vp_in (μ' 1 9) 1001 ∧ (∀ i, i < N → μ' 12 i = μ 12 i ∧ μ' 13 (μ 12 i).toNatClampNeg = μ 13 (μ 12 i).toNatClampNeg)
def repX (μ : wM) (B : wBst) : Prop := μ 1 9 = nI B.1 ∧ B.1 ≤ 1000 ∧ μ 1 7 = nI B.2.1.length ∧ B.2.1.length ≤ 6 ∧ (∀ i, i < B.2.1.length → μ 9 i = nI (B.2.1.getD i 0)) ∧ (∀ e, e ∈ B.2.1 → e < 8 ∧ μ 10 e = nI (B.2.2 e))
def stepE (D : wD) (k : Nat) (rem pre : List Nat) (bg : Nat → Nat) (en E : Nat) (B : wBst) : wBst := if max en (ffN D E pre bg + D.sp E) ≤ D.len ∧ max en (ffN D E pre bg + D.sp E) < B.1 then dfsB D k rem (pre ++ [E]) (l_upd bg E (ffN D E pre bg)) (max en (ffN D E pre bg + D.sp E)) B else B
theorem w_fS.refl {μ : wM} {N : Nat} (h : vp_in (μ 1 9) 1001) : w_fS μ μ N := ⟨fun _ _ _ _ _ _ => rfl, fun _ _ _ => rfl, h, fun _ _ => ⟨rfl, rfl⟩⟩
theorem w_fS.tl {μ ν : wM} {N : Nat} (h : w_fS μ ν N) : w_tl ν N = w_tl μ N := by
  unfold w_tl
  exact List.map_congr_left (fun i hi => by rw [(h.2.2.2 i (List.mem_range.mp hi)).1])
theorem w_tl_mem {μ : wM} {N o : Nat} (h : o ∈ w_tl μ N) : ∃ i, i < N ∧ o = (μ 12 i).toNatClampNeg := by
  unfold w_tl at h
  obtain ⟨i, hi, rfl⟩ := List.mem_map.mp h
  exact ⟨i, List.mem_range.mp hi, rfl⟩
theorem w_fS.tb {μ ν : wM} {N o : Nat} (h : w_fS μ ν N) (ho : o ∈ w_tl μ N) : w_tb ν o = w_tb μ o := by
  obtain ⟨i, hi, rfl⟩ := w_tl_mem ho
  unfold w_tb
  rw [(h.2.2.2 i hi).2]
theorem w_fS.trans {μ ν ρ : wM} {N : Nat} (h : w_fS μ ν N) (h2 : w_fS ν ρ N) : w_fS μ ρ N := by
  refine ⟨fun a a1 a2 a3 a4 a5 => (h2.1 a a1 a2 a3 a4 a5).trans (h.1 a a1 a2 a3 a4 a5), fun j j1 j2 => (h2.2.1 j j1 j2).trans (h.2.1 j j1 j2), h2.2.2.1, fun i hi => ⟨(h2.2.2.2 i hi).1.trans (h.2.2.2 i hi).1, ?_⟩⟩
  have := (h2.2.2.2 i hi).2
  rw [(h.2.2.2 i hi).1] at this
  exact this.trans (h.2.2.2 i hi).2
theorem w_tl_len (μ : wM) (N : Nat) : (w_tl μ N).length = N := by unfold w_tl; rw [List.length_map, List.length_range]
theorem bits_1a : ∀ b, b < 256 → ∀ e, e < 8 → (((nI b >>> (nI e &&& 31)) &&& 1) = 1 ↔ b.testBit e = true) := by decide +kernel
theorem bits_1b : ∀ b, b < 256 → ∀ e, e < 8 → (b.testBit e = true → b - 2 ^ e < 256 ∧ (nI b &&& (((1 : Int32) <<< (nI e &&& 31)) ^^^ (-1))) = nI (b - 2 ^ e) ∧ bitL (b - 2 ^ e) = (bitL b).erase e ∧ (bitL (b - 2 ^ e)).length + 1 = (bitL b).length ∧ (b - 2 ^ e).testBit e = false) := by decide +kernel
theorem bits_1c : ∀ b, b < 256 → ∀ e, e < 8 → ∀ x, x < 8 → (b.testBit e = true ∧ b.testBit x = false → (b - 2 ^ e).testBit x = false) := by decide +kernel
theorem bits_1 (b : Nat) (hb : b < 256) (e : Nat) (he : e < 8) : (((nI b >>> (nI e &&& 31)) &&& 1) = 1 ↔ b.testBit e = true) ∧ (b.testBit e = true → b - 2 ^ e < 256 ∧ (nI b &&& (((1 : Int32) <<< (nI e &&& 31)) ^^^ (-1))) = nI (b - 2 ^ e) ∧ bitL (b - 2 ^ e) = (bitL b).erase e ∧ (bitL (b - 2 ^ e)).length + 1 = (bitL b).length ∧ (b - 2 ^ e).testBit e = false ∧ ∀ x, x < 8 → b.testBit x = false → (b - 2 ^ e).testBit x = false) :=
  ⟨bits_1a b hb e he, fun h => ⟨(bits_1b b hb e he h).1, (bits_1b b hb e he h).2.1, (bits_1b b hb e he h).2.2.1, (bits_1b b hb e he h).2.2.2.1, (bits_1b b hb e he h).2.2.2.2, fun x hx hx2 => bits_1c b hb e he x hx ⟨h, hx2⟩⟩⟩
theorem bits_0 : ∀ b, b < 256 → ((nI b = 0 ↔ bitL b = []) ∧ ((bitL b).length = 0 ↔ bitL b = [])) := by decide +kernel
theorem w_tl_getD (μ : wM) {N i : Nat} (h : i < N) : (w_tl μ N).getD i 0 = (μ 12 i).toNatClampNeg := by
  unfold w_tl
  rw [List.getD_eq_getElem?_getD, List.getElem?_map, List.getElem?_range h]
  rfl
/-! X3_search -/
def pX3_search (wm : Nat) (a : Int32) (d : Int32) (n : Int32) (μ : wM) : Prop := w_LY μ ∧ vp_in (μ 1 9) 1001 ∧ ∃ b N en : Nat, a = nI b ∧ b < 256 ∧ d = nI N ∧ n = nI en ∧ en ≤ 60 ∧ N + (bitL b).length ≤ 6 ∧ (bitL b).length ≤ wm ∧ w_pre μ b N
def qX3_search (a : Int32) (d : Int32) (n : Int32) (μ : wM) (r : Int32) (μ' : wM) : Prop := ∀ b N en : Nat, a = nI b → b < 256 → d = nI N → N ≤ 6 → n = nI en → en ≤ 60 → w_fS μ μ' N ∧ ∀ (bg : Nat → Nat) (B : wBst), (∀ o, o ∈ w_tl μ N → bg o = w_tb μ o) → repX μ B → repX μ' (dfsB (dX μ) (bitL b).length (bitL b) (w_tl μ N) bg en B)
def sX3_search (wm : Nat) : wS := (false, true, 4, fun as μ => ∃ a, ∃ d, ∃ n, as = [.ref 1, .int a, .int d, .int n] ∧ pX3_search wm a d n μ, fun as μ r μ' => match as with
  | [.ref _, .int a, .int d, .int n] => qX3_search a d n μ r μ'
  | _ => False)

/-! X3_searchBehind -/
def pX3_searchBehind (wm : Nat) (e : Int32) (a : Int32) (d : Int32) (n : Int32) (μ : wM) : Prop := w_LY μ ∧ vp_in (μ 1 9) 1001 ∧ ∃ E b N en : Nat, e = nI E ∧ E < 8 ∧ a = nI b ∧ b < 256 ∧ b.testBit E = false ∧ d = nI N ∧ n = nI en ∧ en ≤ 60 ∧ N + 1 + (bitL b).length ≤ 6 ∧ (bitL b).length ≤ wm ∧ w_pre μ b N ∧ ∀ i, i < N → (μ 12 i).toNatClampNeg ≠ E
def qX3_searchBehind (e : Int32) (a : Int32) (d : Int32) (n : Int32) (μ : wM) (r : Int32) (μ' : wM) : Prop := ∀ E b N en : Nat, e = nI E → E < 8 → a = nI b → b < 256 → d = nI N → N ≤ 6 → n = nI en → en ≤ 60 → w_fS μ μ' N ∧ ∀ (bg : Nat → Nat) (B : wBst), (∀ o, o ∈ w_tl μ N → bg o = w_tb μ o) → repX μ B → repX μ' (stepE (dX μ) (bitL b).length (bitL b) (w_tl μ N) bg en E B)
def sX3_searchBehind (wm : Nat) : wS := (false, true, 5, fun as μ => ∃ e, ∃ a, ∃ d, ∃ n, as = [.ref 1, .int e, .int a, .int d, .int n] ∧ pX3_searchBehind wm e a d n μ, fun as μ r μ' => match as with
  | [.ref _, .int e, .int a, .int d, .int n] => qX3_searchBehind e a d n μ r μ'
  | _ => False)

set_option maxRecDepth 100000 in
theorem eX3_search : Cond.code yX3_search cX3_search 5 none ∈ w_tbl ∧ Cond.instanceMethod yX3_search ∈ w_tbl ∧ Cond.selects (w_C 3) yX3_search yX3_search ∈ w_tbl ∧ Cond.initialized yX3_search.cls ∈ w_tbl := ⟨by decide +kernel, by decide +kernel, by decide +kernel, by decide +kernel⟩

set_option maxRecDepth 100000 in
theorem eX3_searchBehind : Cond.code yX3_searchBehind cX3_searchBehind 7 none ∈ w_tbl ∧ Cond.instanceMethod yX3_searchBehind ∈ w_tbl ∧ Cond.selects (w_C 3) yX3_searchBehind yX3_searchBehind ∈ w_tbl ∧ Cond.initialized yX3_searchBehind.cls ∈ w_tbl := ⟨by decide +kernel, by decide +kernel, by decide +kernel, by decide +kernel⟩

theorem rX3_search (wm : Nat) : ∀ as μ, (sX3_search wm).2.2.2.1 as μ → ∃ q as', as = .ref q :: as' ∧ q < 43 ∧ shX q = .inl 3 := by
  intro as μ h
  obtain ⟨a, d, n, rfl, h⟩ := h
  exact ⟨_, _, rfl, by decide, rfl⟩
theorem rX3_searchBehind (wm : Nat) : ∀ as μ, (sX3_searchBehind wm).2.2.2.1 as μ → ∃ q as', as = .ref q :: as' ∧ q < 43 ∧ shX q = .inl 3 := by
  intro as μ h
  obtain ⟨e, a, d, n, rfl, h⟩ := h
  exact ⟨_, _, rfl, by decide, rfl⟩
def gX3_searchBehind (wm : Nat) : Nat → Option wS := fun k => match k with
  | 67 => some (sX3_search wm)
  | 79 => some sX3_firstFit
  | 83 => some sJ9_max_7cf53
  | _ => none
def uX3_searchBehind : Nat → Option (List Nat) := fun _ => none
set_option maxHeartbeats 4000000 in
set_option maxRecDepth 100000 in
theorem vcX3_searchBehind_0 (wm : Nat) (K : wK) (R : Int32 → wM → Prop) (e : Int32) (a : Int32) (d : Int32) (n : Int32) (μ : wM) (h : pX3_firstFit e d μ ∧ (vp_in e 8) ∧ (∀ (x5 : Int32), x5 = (w_mx n ((w_ffI μ e d) + (μ (Int32.toNatClampNeg e + 27) 3))) → (
    ((((μ 1 2) : Int32) < x5) → R 0 μ) ∧
    (¬ (((μ 1 2) : Int32) < x5) → (
      ((((μ 1 9) : Int32) ≤ x5) → R 0 μ) ∧
      (¬ (((μ 1 9) : Int32) ≤ x5) → (vp_in d 6) ∧ (∀ (m6 : wM), m6 = (w_up (w_up μ 12 (d : Int32).toNatClampNeg e) 13 (e : Int32).toNatClampNeg (w_ffI μ e d)) → pX3_search wm a (d + 1) x5 m6 ∧ (∀ (r7 : Int32) (m8 : wM), qX3_search a (d + 1) x5 m6 r7 m8 →
        R 0 m8)))))))) : w_n 3 (gX3_searchBehind wm) shX rfX 43 none R tX3_searchBehind uX3_searchBehind K 42 0 [some (.ref 1), some (.int e), some (.int a), some (.int d), some (.int n), none, none] [] μ :=
  And.intro (Exists.intro _ (Exists.intro _ (And.intro rfl (h.1)))) (fun _ _ z3331 => by obtain ⟨z3329, z3330⟩ := z3331; have z3329 := z3329.symm; have z3330 := z3330.symm; subst z3329; subst z3330; exact And.intro (And.intro (of_decide_eq_true rfl) rfl) (And.intro (Or.inl (And.intro (of_decide_eq_true rfl) (Exists.intro _ (And.intro rfl (h.2.1))))) (And.intro (ev_ok (h.2.1)) (And.intro (Exists.intro _ (Exists.intro _ (And.intro rfl (trivial)))) (fun _ _ z3334 => by obtain ⟨z3332, z3333⟩ := z3334; have z3332 := z3332.symm; have z3333 := z3333.symm; subst z3332; subst z3333; exact And.intro (And.intro (of_decide_eq_true rfl) rfl) (And.intro (fun z3335 => ((h.2.2 _ rfl).1 z3335)) (fun z3336 => And.intro (And.intro (of_decide_eq_true rfl) rfl) (And.intro (fun z3337 => (((h.2.2 _ rfl).2 z3336).1 z3337)) (fun z3338 => And.intro (And.intro (of_decide_eq_true rfl) rfl) (And.intro (And.intro (of_decide_eq_true rfl) (Exists.intro _ (And.intro rfl ((((h.2.2 _ rfl).2 z3336).2 z3338).1)))) (And.intro (And.intro (of_decide_eq_true rfl) rfl) (And.intro (And.intro (of_decide_eq_true rfl) (Exists.intro _ (And.intro rfl (h.2.1)))) (And.intro (Exists.intro _ (Exists.intro _ (Exists.intro _ (And.intro rfl (((((h.2.2 _ rfl).2 z3336).2 z3338).2 _ rfl).1))))) (fun r7 m8 z3339 => (((((h.2.2 _ rfl).2 z3336).2 z3338).2 _ rfl).2 r7 m8 z3339)))))))))))))))
set_option maxHeartbeats 4000000 in
theorem vX3_searchBehind (wm : Nat) (e : Int32) (a : Int32) (d : Int32) (n : Int32) (μ : wM) (h : pX3_searchBehind wm e a d n μ) (K : wK) (hK : w_cl 3 (gX3_searchBehind wm) shX rfX 43 none (qX3_searchBehind e a d n μ) tX3_searchBehind K) : K 0 [some (.ref 1), some (.int e), some (.int a), some (.int d), some (.int n), none, none] [] μ := by
  unfold pX3_searchBehind at h
  obtain ⟨hL, h9, E, b, N, en, rfl, hE, rfl, hb, hbE, rfl, rfl, hen, hN, hm, hp, hne⟩ := h
  obtain ⟨l1, l2⟩ := dX_len hL
  obtain ⟨s1, s2⟩ := dX_sp hL hE
  obtain ⟨B9, hB9, h9n, h9c⟩ := vp_in_le h9 (by decide)
  have eE : (nI E).toNatClampNeg = E := nI_clamp (by omega)
  have eN : (nI N).toNatClampNeg = N := nI_clamp (by omega)
  have he8 : vp_in (nI E) 8 := vp_in_nI (by omega) (by omega)
  refine hK uX3_searchBehind 42 _ _ _ _ (vcX3_searchBehind_0 wm K _ (nI E) (nI b) (nI N) (nI en) μ ?_)
  have hff : w_ffI μ (nI E) (nI N) = nI (ffN (dX μ) E (w_tl μ N) (w_tb μ)) := by unfold w_ffI; rw [eE, eN]
  have hV := ffN_le (D := dX μ) (e := E) (b := w_tb μ) (pre := w_tl μ N) l2
  rw [hff, eE, eN, s1, nI_add]
  generalize hVd : ffN (dX μ) E (w_tl μ N) (w_tb μ) = V at *
  have hmx : w_mx (nI en) (nI (V + (dX μ).sp E)) = nI (max en (V + (dX μ).sp E)) := by
    unfold w_mx
    by_cases q : en < V + (dX μ).sp E
    · rw [if_pos (nI_lt q (by omega)), show max en (V + (dX μ).sp E) = V + (dX μ).sp E by omega]
    · rw [if_neg (nI_nlt (by omega) (by omega)), show max en (V + (dX μ).sp E) = en by omega]
  rw [hmx]
  generalize hMd : max en (V + (dX μ).sp E) = M at *
  have hM2 : M < 2000 := by omega
  have stay : ¬ (M ≤ (dX μ).len ∧ M < B9) → qX3_searchBehind (nI E) (nI b) (nI N) (nI en) μ 0 μ := by
    intro hno E' b' N' en' e1 e2 e3 e4 e5 e6 e7 e8
    have i1 : E = E' := (nI_eq (by omega) (by omega)).mp e1
    have i2 : b = b' := (nI_eq (by omega) (by omega)).mp e3
    have i3 : N = N' := (nI_eq (by omega) (by omega)).mp e5
    have i4 : en = en' := (nI_eq (by omega) (by omega)).mp e7
    subst i1 i2 i3 i4
    refine ⟨w_fS.refl h9, fun bg B hag hrep => ?_⟩
    have hB1 : B.1 = B9 := (nI_eq (by have := hrep.2.1; omega) (by omega)).mp (hrep.1.symm.trans h9n)
    unfold stepE
    rw [ffN_cg hag, hVd, hMd, hB1, if_neg hno]
    exact hrep
  refine ⟨⟨hL, he8, vp_in_nI (by omega) (by omega), fun i hi => ?_⟩, he8, fun x5 hx5 => ?_⟩
  · rw [eN] at hi
    exact ⟨(hp i hi).1, (hp i hi).2.1⟩
  subst hx5
  rw [l1, h9n]
  refine ⟨fun c => stay (fun z => ?_), fun c => ⟨fun c2 => stay (fun z => ?_), fun c2 => ⟨vp_in_nI (by omega) (by omega), fun m6 hm6 => ?_⟩⟩⟩
  · have := (nI_ltI (by omega) (by omega)).mp c; omega
  · have := (nI_leI (by omega) (by omega)).mp c2; omega
  have c' : M ≤ (dX μ).len := by
    rcases Nat.lt_or_ge (dX μ).len M with q | q
    · exact absurd (nI_lt q (by omega)) c
    · exact q
  have c2' : M < B9 := by
    rcases Nat.lt_or_ge M B9 with q | q
    · exact q
    · exact absurd (nI_le q (by omega)) c2
  have hVs : V + (dX μ).sp E ≤ 60 := by omega
  have g1 : ∀ a, a ≠ 1 → a ≠ 9 → a ≠ 10 → a ≠ 12 → a ≠ 13 → m6 a = μ a := fun a _ _ _ a4 a5 => by rw [hm6, w_up_o a5, w_up_o a4]
  have g2 : m6 1 = μ 1 := by rw [hm6, w_up_o (by decide), w_up_o (by decide)]
  have g12 : ∀ i, i < N → m6 12 i = μ 12 i := fun i hi => by rw [hm6, w_up_o (by decide), w_up_s, upd_out (by omega)]
  have g12N : m6 12 N = nI E := by rw [hm6, w_up_o (by decide), w_up_s, upd_in]
  have g13 : ∀ x, x ≠ E → m6 13 x = μ 13 x := fun x hx => by rw [hm6, w_up_s, upd_out hx, w_up_o (by decide)]
  have g13E : m6 13 E = nI V := by rw [hm6, w_up_s, upd_in]
  have hd : dX m6 = dX μ := dX_cg g1 (fun j _ _ => by rw [g2])
  have htl : w_tl m6 (N + 1) = w_tl μ N ++ [E] := by
    rw [w_tl_s, g12N, eE]
    congr 1
    unfold w_tl
    exact List.map_congr_left (fun i hi => by rw [g12 i (List.mem_range.mp hi)])
  rw [nI_1]
  refine ⟨⟨hL.cg g1 (fun j _ _ => by rw [g2]), by rw [g2]; exact h9, b, N + 1, M, rfl, hb, rfl, rfl, by omega, by omega, hm, fun i hi => ?_⟩, fun r7 m8 hq => ?_⟩
  · by_cases q : i = N
    · rw [q, g12N, eE, g13E]
      exact ⟨he8, vp_in_nI (by omega) (by omega), hbE⟩
    · rw [g12 i (by omega), g13 _ (hne i (by omega))]
      exact hp i (by omega)
  intro E' b' N' en' e1 e2 e3 e4 e5 e6 e7 e8
  have i1 : E = E' := (nI_eq (by omega) (by omega)).mp e1
  have i2 : b = b' := (nI_eq (by omega) (by omega)).mp e3
  have i3 : N = N' := (nI_eq (by omega) (by omega)).mp e5
  have i4 : en = en' := (nI_eq (by omega) (by omega)).mp e7
  subst i1 i2 i3 i4
  obtain ⟨f1, f2⟩ := hq b (N + 1) M rfl hb rfl (by omega) rfl (by omega)
  refine ⟨⟨fun a a1 a2 a3 a4 a5 => (f1.1 a a1 a2 a3 a4 a5).trans (g1 a a1 a2 a3 a4 a5), fun j j1 j2 => (f1.2.1 j j1 j2).trans (by rw [g2]), f1.2.2.1, fun i hi => ⟨(f1.2.2.2 i (by omega)).1.trans (g12 i hi), ?_⟩⟩, fun bg B hag hrep => ?_⟩
  · have := (f1.2.2.2 i (by omega)).2
    rw [g12 i hi, g13 _ (hne i hi)] at this
    exact this
  · have hB1 : B.1 = B9 := (nI_eq (by have := hrep.2.1; omega) (by omega)).mp (hrep.1.symm.trans h9n)
    have hrep6 : repX m6 B := by
      unfold repX
      rw [g2, show m6 9 = μ 9 from by rw [hm6, w_up_o (by decide), w_up_o (by decide)], show m6 10 = μ 10 from by rw [hm6, w_up_o (by decide), w_up_o (by decide)]]
      exact hrep
    have := f2 (l_upd bg E V) B (fun o ho => by
      rw [htl] at ho
      rcases List.mem_append.mp ho with q | q
      · obtain ⟨i, hi, hio⟩ := w_tl_mem q
        have hoE : o ≠ E := by rw [hio]; exact hne i hi
        unfold l_upd w_tb
        rw [if_neg hoE, g13 o hoE]
        exact hag o q
      · rw [List.mem_singleton.mp q]
        unfold l_upd w_tb
        rw [if_pos rfl, g13E, nI_clamp (by omega)]) hrep6
    rw [hd, htl] at this
    unfold stepE
    rw [ffN_cg hag, hVd, hMd, hB1, if_pos ⟨c', c2'⟩]
    exact this

def gX3_search (wm : Nat) : Nat → Option wS := fun k => match k with
  | 71 => some sX3_keep
  | 75 => (match wm with
    | 0 => none
    | k + 1 => some (sX3_searchBehind k))
  | _ => none
def uX3_search : Nat → Option (List Nat) := fun j => match j with | 9 => some [] | _ => none
set_option maxHeartbeats 4000000 in
set_option maxRecDepth 100000 in
theorem vcX3_search_0 (wm : Nat) (K : wK) (R : Int32 → wM → Prop) (a : Int32) (d : Int32) (n : Int32) (μ : wM) (h : (
    (((a : Int32) = 0) → (∀ (r1 : Int32) (m2 : wM), qX3_keep d n μ r1 m2 →
      R 0 m2)) ∧
    (¬ ((a : Int32) = 0) → K 9 [some (.ref 1), some (.int a), some (.int d), some (.int n), some (.int 0)] [] μ))) : w_n 3 (gX3_search wm) shX rfX 43 none R tX3_search uX3_search K 29 0 [some (.ref 1), some (.int a), some (.int d), some (.int n), none] [] μ :=
  And.intro (fun z3340 => And.intro (Exists.intro _ (Exists.intro _ (And.intro rfl (trivial)))) (fun r1 m2 z3342 => ((h.1 z3340) r1 m2 z3342))) (fun z3341 => (h.2 z3341))
set_option maxHeartbeats 4000000 in
set_option maxRecDepth 100000 in
theorem vcX3_search_9 (wm : Nat) (K : wK) (R : Int32 → wM → Prop) (a : Int32) (d : Int32) (n : Int32) (l4 : Int32) (μ : wM) (h : (
    (((8 : Int32) ≤ l4) → R 0 μ) ∧
    (¬ ((8 : Int32) ≤ l4) → (
      (((6 : Int32) ≤ d) → R 0 μ) ∧
      (¬ ((6 : Int32) ≤ d) → (
        (((((a >>> (l4 &&& 31)) &&& 1) : Int32) = 1) → pX3_searchBehind wm l4 (a &&& ((1 <<< (l4 &&& 31)) ^^^ (-1))) d n μ ∧ (∀ (r1 : Int32) (m2 : wM), qX3_searchBehind l4 (a &&& ((1 <<< (l4 &&& 31)) ^^^ (-1))) d n μ r1 m2 →
          K 9 [some (.ref 1), some (.int a), some (.int d), some (.int n), some (.int (l4 + 1))] [] m2)) ∧
        (¬ ((((a >>> (l4 &&& 31)) &&& 1) : Int32) = 1) → K 9 [some (.ref 1), some (.int a), some (.int d), some (.int n), some (.int (l4 + 1))] [] μ))))))) : w_n 3 (gX3_search (wm + 1)) shX rfX 43 none R tX3_search uX3_search K 29 9 [some (.ref 1), some (.int a), some (.int d), some (.int n), some (.int l4)] [] μ :=
  And.intro (fun z3343 => (h.1 z3343)) (fun z3344 => And.intro (fun z3345 => ((h.2 z3344).1 z3345)) (fun z3346 => And.intro (fun z3347 => And.intro (Exists.intro _ (Exists.intro _ (Exists.intro _ (Exists.intro _ (And.intro rfl ((((h.2 z3344).2 z3346).1 z3347).1)))))) (fun r1 m2 z3349 => ((((h.2 z3344).2 z3346).1 z3347).2 r1 m2 z3349))) (fun z3348 => (((h.2 z3344).2 z3346).2 z3348))))
set_option maxHeartbeats 4000000 in
theorem vX3_search (wm : Nat) (a : Int32) (d : Int32) (n : Int32) (μ : wM) (h : pX3_search wm a d n μ) (K : wK) (hK : w_cl 3 (gX3_search wm) shX rfX 43 none (qX3_search a d n μ) tX3_search K) : K 0 [some (.ref 1), some (.int a), some (.int d), some (.int n), none] [] μ := by
  unfold pX3_search at h
  obtain ⟨hL, h9, b, N, en, rfl, hb, rfl, rfl, hen, hN, hm, hp⟩ := h
  obtain ⟨z1, z2⟩ := bits_0 b hb
  have eN : (nI N).toNatClampNeg = N := nI_clamp (by omega)
  refine hK uX3_search 29 _ _ _ _ (vcX3_search_0 wm K _ (nI b) (nI N) (nI en) μ ?_)
  refine ⟨fun c => fun r m hq => ?_, fun c => ?_⟩
  · have hnil := z1.mp c
    unfold qX3_keep at hq
    have e1 : ∀ j, j ≠ 7 → j ≠ 9 → m 1 j = μ 1 j := fun j j1 j2 => by rw [hq, w_cp_ne (by decide), w_cp_ne (by decide), w_up_s, upd_out j1, w_up_s, upd_out j2]
    have e19 : m 1 9 = nI en := by rw [hq, w_cp_ne (by decide), w_cp_ne (by decide), w_up_s, upd_out (by decide), w_up_s, upd_in]
    have e17 : m 1 7 = nI N := by rw [hq, w_cp_ne (by decide), w_cp_ne (by decide), w_up_s, upd_in]
    have e9 : ∀ i, i < 6 → m 9 i = μ 12 i := fun i hi => by
      rw [hq, w_cp_ne (by decide)]
      unfold w_cp
      rw [if_pos rfl, pk_cpy_in (by omega) (by omega), w_up_o (by decide), w_up_o (by decide), Nat.zero_add, Nat.sub_zero]
    have e10 : ∀ i, i < 8 → m 10 i = μ 13 i := fun i hi => by
      rw [hq]
      unfold w_cp
      rw [if_pos rfl, pk_cpy_in (by omega) (by omega), if_neg (by decide), w_up_o (by decide), w_up_o (by decide), Nat.zero_add, Nat.sub_zero]
    have e12 : m 12 = μ 12 := by rw [hq, w_cp_ne (by decide), w_cp_ne (by decide), w_up_o (by decide), w_up_o (by decide)]
    have e13 : m 13 = μ 13 := by rw [hq, w_cp_ne (by decide), w_cp_ne (by decide), w_up_o (by decide), w_up_o (by decide)]
    intro b' N' en' f1 f2 f3 f4 f5 f6
    have i2 : b = b' := (nI_eq (by omega) (by omega)).mp f1
    have i3 : N = N' := (nI_eq (by omega) (by omega)).mp f3
    have i4 : en = en' := (nI_eq (by omega) (by omega)).mp f5
    subst i2 i3 i4
    refine ⟨⟨fun a a1 a2 a3 a4 a5 => by rw [hq, w_cp_ne a3, w_cp_ne a2, w_up_o a1, w_up_o a1], e1, by rw [e19]; exact vp_in_nI (by omega) (by omega), fun i _ => ⟨by rw [e12], by rw [e13]⟩⟩, fun bg B hag hrep => ?_⟩
    rw [hnil]
    show repX m (en, w_tl μ N, bg)
    unfold repX
    dsimp only
    rw [w_tl_len]
    refine ⟨e19, by omega, e17, by omega, fun i hi => ?_, fun e he => ?_⟩
    · rw [e9 i (by omega), w_tl_getD μ hi]
      obtain ⟨X, hX, hXn, hXc⟩ := vp_in_le (hp i hi).1 (by decide)
      rw [hXc, hXn]
    · obtain ⟨i, hi, rfl⟩ := w_tl_mem he
      have h8 := vp_in_lt (hp i hi).1
      refine ⟨h8, ?_⟩
      rw [e10 _ h8, hag _ he]
      unfold w_tb
      obtain ⟨X, hX, hXn, hXc⟩ := vp_in_le (hp i hi).2.1 (by decide)
      rw [hXc, hXn]
  · have hnn : ¬ bitL b = [] := fun q => c (z1.mpr q)
    have hlen : 1 ≤ (bitL b).length := by
      rcases Nat.eq_zero_or_pos (bitL b).length with q | q
      · exact absurd (z2.mp q) hnn
      · exact q
    cases wm with
    | zero => omega
    | succ wm =>
    obtain ⟨Lr, hLr⟩ : ∃ Lr, (bitL b).length = Lr + 1 := ⟨(bitL b).length - 1, by omega⟩
    have loop : ∀ (j i : Nat) (ν : wM), i + j = 8 → w_fS μ ν N → (∀ (bg : Nat → Nat) (B : wBst), (∀ o, o ∈ w_tl μ N → bg o = w_tb μ o) → repX μ B → repX ν (((List.range i).filter (fun e => b.testBit e)).foldl (fun B e => stepE (dX μ) Lr ((bitL b).erase e) (w_tl μ N) bg en e B) B)) → K 9 [some (.ref 1), some (.int (nI b)), some (.int (nI N)), some (.int (nI en)), some (.int (nI i))] [] ν := by
      intro j
      induction j with
      | zero =>
        intro i ν hi hf hr
        have hi8 : i = 8 := by omega
        subst hi8
        refine hK uX3_search 29 _ _ _ _ (vcX3_search_9 wm K _ (nI b) (nI N) (nI en) (nI 8) ν ?_)
        refine ⟨fun _ => ?_, fun z => absurd (by decide) z⟩
        intro b' N' en' f1 f2 f3 f4 f5 f6
        have i2 : b = b' := (nI_eq (by omega) (by omega)).mp f1
        have i3 : N = N' := (nI_eq (by omega) (by omega)).mp f3
        have i4 : en = en' := (nI_eq (by omega) (by omega)).mp f5
        subst i2 i3 i4
        refine ⟨hf, fun bg B hag hrep => ?_⟩
        rw [hLr]
        exact hr bg B hag hrep
      | succ j ih =>
        intro i ν hi hf hr
        refine hK uX3_search 29 _ _ _ _ (vcX3_search_9 wm K _ (nI b) (nI N) (nI en) (nI i) ν ?_)
        obtain ⟨y1, y2⟩ := bits_1 b hb i (by omega)
        rw [nI_1]
        have hrs : ∀ (f : wBst → Nat → wBst) (B : wBst), ((List.range (i + 1)).filter (fun e => b.testBit e)).foldl f B = (if b.testBit i = true then f (((List.range i).filter (fun e => b.testBit e)).foldl f B) i else ((List.range i).filter (fun e => b.testBit e)).foldl f B) := by
          intro f B
          rw [List.range_succ, List.filter_append, List.foldl_append]
          by_cases q : b.testBit i = true
          · rw [if_pos q, List.filter_cons_of_pos q]; rfl
          · rw [if_neg q, List.filter_cons_of_neg q]; rfl
        refine ⟨fun z => absurd z (nI_ge (b := 8) (by omega) (by omega)), fun _ => ⟨fun z => absurd z (nI_ge (b := 6) (by omega) (by omega)), fun _ => ⟨fun c2 => ?_, fun c2 => ?_⟩⟩⟩
        · have hbit := y1.mp c2
          obtain ⟨hb', w1, w2, w3, w4, w5⟩ := y2 hbit
          generalize b - 2 ^ i = b' at *
          rw [w1]
          refine ⟨⟨hL.cg hf.1 hf.2.1, hf.2.2.1, i, b', N, en, rfl, by omega, rfl, hb', w4, rfl, rfl, hen, by omega, by omega, fun x hx => ?_, fun x hx => ?_⟩, fun r m hq => ?_⟩
          · rw [(hf.2.2.2 x hx).1, (hf.2.2.2 x hx).2]
            exact ⟨(hp x hx).1, (hp x hx).2.1, w5 _ (vp_in_lt (hp x hx).1) (hp x hx).2.2⟩
          · rw [(hf.2.2.2 x hx).1]
            intro q
            have := (hp x hx).2.2
            rw [q, hbit] at this
            cases this
          · obtain ⟨f1, f2⟩ := hq i b' N en rfl (by omega) rfl hb' rfl (by omega) rfl hen
            refine ih (i + 1) m (by omega) (hf.trans f1) (fun bg B hag hrep => ?_)
            have := f2 bg _ (fun o ho => by rw [hf.tl] at ho; rw [hf.tb ho]; exact hag o ho) (hr bg B hag hrep)
            rw [hf.tl, dX_cg hf.1 hf.2.1, w2] at this
            rw [hrs, if_pos hbit]
            rw [w2] at w3
            rw [show ((bitL b).erase i).length = Lr by omega] at this
            exact this
        · have hbit : ¬ b.testBit i = true := fun q => c2 (y1.mpr q)
          refine ih (i + 1) ν (by omega) hf (fun bg B hag hrep => ?_)
          rw [hrs, if_neg hbit]
          exact hr bg B hag hrep
    exact loop 8 0 μ rfl (w_fS.refl h9) (fun bg B hag hrep => hrep)

set_option maxRecDepth 100000 in
theorem zX3_searchBehind (l : Launch) (wm : Nat) (hS0 : w_Met l yX3_search cX3_search 5 none (2 * wm + 4) shX rfX 43 (sX3_search wm).2.2.2.1 (sX3_search wm).2.2.2.2) : ∀ (idx : Nat) (S : wS), gX3_searchBehind wm idx = some S → w_Call l 3 idx S (2 * wm + 5) shX rfX 43 := by
  intro idx S hS
  unfold gX3_searchBehind at hS
  split at hS
  · cases hS
    exact w_callV (ci := 3) hS0 (by decide) (rX3_search wm) eX3_search.1 (by decide +kernel) eX3_search.2.1 eX3_search.2.2.1 eX3_search.2.2.2 (by decide +kernel) (by omega) (by decide)
  · cases hS
    exact w_callV (ci := 3) (mX3_firstFit l) (by decide) rX3_firstFit eX3_firstFit.1 (by decide +kernel) eX3_firstFit.2.1 eX3_firstFit.2.2.1 eX3_firstFit.2.2.2 (by decide +kernel) (by omega) (by decide)
  · cases hS
    exact w_callMax (by omega) (by decide +kernel) (by decide +kernel) (by decide +kernel) (by decide +kernel)
  · cases hS
theorem mX3_searchBehind_of (l : Launch) (wm : Nat) (hS0 : w_Met l yX3_search cX3_search 5 none (2 * wm + 4) shX rfX 43 (sX3_search wm).2.2.2.1 (sX3_search wm).2.2.2.2) : w_Met l yX3_searchBehind cX3_searchBehind 7 none (2 * wm + 5) shX rfX 43 (sX3_searchBehind wm).2.2.2.1 (sX3_searchBehind wm).2.2.2.2 :=
  w_meth (o := 3) (Γ := gX3_searchBehind wm) (tb := tX3_searchBehind) (by decide +kernel) rfl kX3_searchBehind rfl (zX3_searchBehind l wm hS0) (fun as μ h => by obtain ⟨e, a, d, n, rfl, h⟩ := h; exact Nat.le_of_ble_eq_true rfl) (fun as μ h K hK => by obtain ⟨e, a, d, n, rfl, h⟩ := h; exact vX3_searchBehind wm e a d n μ h K hK)
set_option maxRecDepth 100000 in
theorem mX3_search (l : Launch) : ∀ wm : Nat, w_Met l yX3_search cX3_search 5 none (2 * wm + 4) shX rfX 43 (sX3_search wm).2.2.2.1 (sX3_search wm).2.2.2.2 := by
  intro wm
  induction wm with
  | zero =>
    refine w_meth (o := 3) (Γ := gX3_search 0) (tb := tX3_search) (by decide +kernel) rfl kX3_search rfl ?_ (fun as μ h => by obtain ⟨a, d, n, rfl, h⟩ := h; exact Nat.le_of_ble_eq_true rfl) (fun as μ h K hK => by obtain ⟨a, d, n, rfl, h⟩ := h; exact vX3_search 0 a d n μ h K hK)
    intro idx S hS
    unfold gX3_search at hS
    split at hS
    · cases hS
      exact w_callV (ci := 3) (mX3_keep l) (by decide) rX3_keep eX3_keep.1 (by decide +kernel) eX3_keep.2.1 eX3_keep.2.2.1 eX3_keep.2.2.2 (by decide +kernel) (by omega) (by decide)
    · cases hS
    · cases hS
  | succ wm ih =>
    refine w_meth (o := 3) (Γ := gX3_search (wm + 1)) (tb := tX3_search) (by decide +kernel) rfl kX3_search rfl ?_ (fun as μ h => by obtain ⟨a, d, n, rfl, h⟩ := h; exact Nat.le_of_ble_eq_true rfl) (fun as μ h K hK => by obtain ⟨a, d, n, rfl, h⟩ := h; exact vX3_search (wm + 1) a d n μ h K hK)
    intro idx S hS
    unfold gX3_search at hS
    split at hS
    · cases hS
      exact w_callV (ci := 3) (mX3_keep l) (by decide) rX3_keep eX3_keep.1 (by decide +kernel) eX3_keep.2.1 eX3_keep.2.2.1 eX3_keep.2.2.2 (by decide +kernel) (by omega) (by decide)
    · cases hS
      exact w_callV (ci := 3) (mX3_searchBehind_of l wm ih) (by decide) (rX3_searchBehind wm) eX3_searchBehind.1 (by decide +kernel) eX3_searchBehind.2.1 eX3_searchBehind.2.2.1 eX3_searchBehind.2.2.2 (by decide +kernel) (by omega) (by decide)
    · cases hS