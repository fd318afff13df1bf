/-! the class's memory and the model's: one state -/
theorem has_eq {c e : Int32} (h : vp_in c 9) : w_hasB c e = w_inB e 0 (c - 1) := by
  obtain ⟨C, hC, rfl, -⟩ := vp_in_le h (by decide)
  have key : w_hasB (nI C) e = true ↔ w_inB e 0 (nI C - 1) = true := by
    rw [w_hasB_t, w_inB_t]
    constructor
    · rintro ⟨h1, h2⟩
      obtain ⟨E, hE, rfl⟩ := nI_of (i_nlt.mpr h1)
      have h2 := (nI_ltI hE (by omega)).mp h2
      refine ⟨h1, ?_⟩
      rw [show C = (C - 1) + 1 by omega, nI_pred]
      exact nI_le (by omega) (by omega)
    · rintro ⟨h1, h2⟩
      obtain ⟨E, hE, rfl⟩ := nI_of (i_nlt.mpr h1)
      refine ⟨h1, ?_⟩
      cases C with
      | zero =>
        exfalso
        have q := i_le.mp h2
        rw [nI_toInt hE, show (nI 0 - 1 : Int32).toInt = -1 from by decide] at q
        omega
      | succ C =>
        rw [nI_pred] at h2
        have := (nI_leI hE (by omega)).mp h2
        exact nI_lt (by omega) (by omega)
  cases h1 : w_hasB (nI C) e with
  | true => exact (key.mp h1).symm
  | false =>
    cases h2 : w_inB e 0 (nI C - 1) with
    | true => rw [key.mpr h2] at h1; cases h1
    | false => rfl
theorem w_up_j {μ : wM} {q j a b : Nat} {x : Int32} (h : a ≠ q ∨ b ≠ j) : w_up μ q j x a b = μ a b := by
  unfold w_up
  rw [if_neg (by omega)]
theorem w_up_i {μ : wM} {q j : Nat} {x : Int32} : w_up μ q j x q j = x := by
  unfold w_up
  rw [if_pos ⟨rfl, rfl⟩]
def rA1 (c e : Nat) (m : Nat → Int32) (n1 n2 n3 n4 n5 n6 n7 n8 n9 : Int32) : Prop := (m 0 = nI e ∧ n1 = m 1 ∧ n2 = m 2 ∧ n3 = m 3 ∧ n4 = m 4 ∧ n5 = m 5 ∧ n6 = m 6 ∧ n8 = m 8) ∧ (vp_in (m 1) 3 ∧ vp_in (m 3) 13 ∧ vp_in (m 4) 1024 ∧ w_bit (m 6) ∧ 100 ≤ (m 9).toInt ∧ (m 9).toInt ≤ 2000) ∧ (e < c → n7 = m 7 ∧ n9 = m 9 ∧ 1 ≤ (m 3).toNatClampNeg) ∧ (¬ e < c → m 7 = 10000 ∧ m 9 = 220)
def rA (μ ν : wM) : Prop := vp_in (μ 1 1) 9 ∧ ν 0 0 = μ 1 1 ∧ ∀ e, e < 8 → rA1 (μ 1 1).toNatClampNeg e (μ (e + 27)) (ν 1 e) (ν 2 e) (ν 3 e) (ν 4 e) (ν 5 e) (ν 6 e) (ν 7 e) (ν 8 e) (ν 9 e)
def rS (μ ν : wM) : Prop := ν 0 11 = μ 1 2 ∧ ν 0 12 = μ 1 3 ∧ vp_in (μ 1 2) 61 ∧ vp_in (μ 1 3) 7
def rB (μ ν : wM) : Prop := ∀ x, x < 10 → ν 10 x = μ 7 x ∧ -50 ≤ (μ 7 x).toInt ∧ (μ 7 x).toInt ≤ 50
def rC (μ ν : wM) : Prop := ν 0 13 = μ 1 4 ∧ vp_in (μ 1 4) 9 ∧ ∀ e, e < 8 → ∀ o, o < 8 → w_tells (ν 11) (ν 12) (nI e) (nI o) (ν 0 13).toNatClampNeg = w_bt (μ 11 o) (nI e) ∧ vp_in (μ 11 o) 256
def rD (μ ν : wM) : Prop := (ν 0 19 = μ 1 7 ∧ vp_in (μ 1 7) 7 ∧ (ν 0 18 = 0 ↔ μ 1 7 = 0)) ∧ (∀ i, i < (μ 1 7).toNatClampNeg → ν 15 i = μ 9 i ∧ ∃ E P K : Nat, E < (μ 1 1).toNatClampNeg ∧ E < 8 ∧ μ 9 i = nI E ∧ μ 10 E = nI P ∧ μ (E + 27) 3 = nI K ∧ 1 ≤ K ∧ P + K ≤ 60) ∧ (∀ e, e < 8 → ν 16 e = if ν 0 18 = 0 then 0 else if w_bt (μ 1 8) (nI e) = true then μ 10 e else -1) ∧ (∀ e, e < 8 → (w_bt (μ 1 8) (nI e) = true ↔ ∃ i, i < (μ 1 7).toNatClampNeg ∧ μ 9 i = nI e))
def rE1 (μ ν : wM) (i : Nat) : Prop := ν 17 i = μ 14 i ∧ ν 18 i = μ 15 i ∧ ν 19 i = μ 16 i ∧ vp_in (μ 15 i) 10 ∧ ∃ e : Nat, e < 8 ∧ e < (μ 1 1).toNatClampNeg ∧ μ 14 i = nI e ∧ ν 20 i = (if μ (e + 27) 1 = 1 then μ 18 i else μ 17 i) ∧ (μ (e + 27) 1 = 2 → vp_in (μ 16 i) 3 ∧ vp_in (μ 17 i) 10 ∧ ¬ μ 17 i = 0) ∧ (μ (e + 27) 1 = 1 → -50 ≤ (μ 18 i).toInt ∧ (μ 18 i).toInt ≤ 50)
def rE (μ ν : wM) : Prop := ν 0 22 = μ 2 5 ∧ vp_in (μ 2 5) 161 ∧ ∀ i, i < (μ 2 5).toNatClampNeg → rE1 μ ν i
def rF1 (s : Nat) (m it : Nat → Int32) (ν : wM) : Prop := ν 22 s = m 3 ∧ vp_in (m 3) 61 ∧ w_bit (m 1) ∧ (m 1 = 0 → ν 21 s = -1) ∧ (¬ m 1 = 0 → ν 21 s = m 2 ∧ vp_in (m 2) 3) ∧ ∀ i, i < 60 → ν 23 (60 * s + i) = it i
def rF (μ ν : wM) : Prop := ∀ s, s < 4 → rF1 s (μ (s + 35)) (μ (s + 39)) ν
def rG (μ ν : wM) : Prop := ν 0 35 = μ 5 1 ∧ vp_in (μ 5 1) 7 ∧ ∀ i, i < 6 → ν 29 i = μ 26 i
def rH (μ ν : wM) : Prop := ν 0 39 = μ 4 1 ∧ vp_in (μ 4 1) 41 ∧ ∀ i, i < (μ 4 1).toNatClampNeg → ν 31 i = μ 25 i ∧ ¬ μ 25 i = 0
def rel (μ ν : wM) : Prop := w_Z μ ∧ rA μ ν ∧ rS μ ν ∧ rB μ ν ∧ rC μ ν ∧ rD μ ν ∧ rE μ ν ∧ rF μ ν ∧ rG μ ν ∧ rH μ ν
section RELCG
variable {μ ν μ' ν' : wM}
theorem rA.cg (h : rA μ ν) (h1 : μ' 1 1 = μ 1 1) (h2 : ν' 0 0 = ν 0 0) (h3 : ∀ e, e < 8 → μ' (e + 27) = μ (e + 27)) (h4 : ∀ a, 1 ≤ a → a ≤ 9 → ν' a = ν a) : rA μ' ν' := by
  unfold rA
  rw [h1, h2, h4 1 (by decide) (by decide), h4 2 (by decide) (by decide), h4 3 (by decide) (by decide), h4 4 (by decide) (by decide), h4 5 (by decide) (by decide), h4 6 (by decide) (by decide), h4 7 (by decide) (by decide), h4 8 (by decide) (by decide), h4 9 (by decide) (by decide)]
  exact ⟨h.1, h.2.1, fun e he => by rw [h3 e he]; exact h.2.2 e he⟩
theorem rS.cg (h : rS μ ν) (h1 : μ' 1 2 = μ 1 2) (h2 : μ' 1 3 = μ 1 3) (h3 : ν' 0 11 = ν 0 11) (h4 : ν' 0 12 = ν 0 12) : rS μ' ν' := by
  unfold rS
  rw [h1, h2, h3, h4]
  exact h
theorem rB.cg (h : rB μ ν) (h1 : μ' 7 = μ 7) (h2 : ν' 10 = ν 10) : rB μ' ν' := by
  unfold rB
  rw [h1, h2]
  exact h
theorem rC.cg (h : rC μ ν) (h1 : μ' 1 4 = μ 1 4) (h2 : μ' 11 = μ 11) (h3 : ν' 0 13 = ν 0 13) (h4 : ν' 11 = ν 11) (h5 : ν' 12 = ν 12) : rC μ' ν' := by
  unfold rC
  rw [h1, h2, h3, h4, h5]
  exact h
theorem rD.cg (h : rD μ ν) (h1 : μ' 1 7 = μ 1 7) (h2 : μ' 1 8 = μ 1 8) (h3 : μ' 9 = μ 9) (h4 : μ' 10 = μ 10) (h5 : ν' 0 18 = ν 0 18) (h6 : ν' 0 19 = ν 0 19) (h7 : ν' 15 = ν 15) (h8 : ν' 16 = ν 16) (h9 : (μ 1 1).toNatClampNeg ≤ (μ' 1 1).toNatClampNeg) (h10 : ∀ e, e < 8 → e < (μ 1 1).toNatClampNeg → μ' (e + 27) 3 = μ (e + 27) 3) : rD μ' ν' := by
  unfold rD
  rw [h1, h2, h3, h4, h5, h6, h7, h8]
  refine ⟨h.1, fun i hi => ?_, h.2.2⟩
  obtain ⟨a1, E, P, K, a2, a3, a4, a5, a6, a7, a8⟩ := h.2.1 i hi
  exact ⟨a1, E, P, K, by omega, a3, a4, a5, by rw [h10 E a3 a2]; exact a6, a7, a8⟩
theorem rE.cg (h : rE μ ν) (h1 : μ' 2 5 = μ 2 5) (h2 : ∀ a, 14 ≤ a → a ≤ 18 → μ' a = μ a) (h3 : ν' 0 22 = ν 0 22) (h4 : ∀ a, 17 ≤ a → a ≤ 20 → ν' a = ν a) (h9 : (μ 1 1).toNatClampNeg ≤ (μ' 1 1).toNatClampNeg) (h10 : ∀ e, e < 8 → e < (μ 1 1).toNatClampNeg → μ' (e + 27) 1 = μ (e + 27) 1) : rE μ' ν' := by
  unfold rE rE1
  rw [h1, h3, h2 14 (by decide) (by decide), h2 15 (by decide) (by decide), h2 16 (by decide) (by decide), h2 17 (by decide) (by decide), h2 18 (by decide) (by decide), h4 17 (by decide) (by decide), h4 18 (by decide) (by decide), h4 19 (by decide) (by decide), h4 20 (by decide) (by decide)]
  refine ⟨h.1, h.2.1, fun i hi => ?_⟩
  obtain ⟨a1, a2, a3, a4, e, b1, b2, b3, b4, b5, b6⟩ := h.2.2 i hi
  refine ⟨a1, a2, a3, a4, e, b1, by omega, b3, ?_, ?_, ?_⟩
  · rw [h10 e b1 b2]; exact b4
  · rw [h10 e b1 b2]; exact b5
  · rw [h10 e b1 b2]; exact b6
theorem rF.cg (h : rF μ ν) (h1 : ∀ a, 35 ≤ a → μ' a = μ a) (h2 : ν' 21 = ν 21) (h3 : ν' 22 = ν 22) (h4 : ν' 23 = ν 23) : rF μ' ν' := by
  intro s hs
  have := h s hs
  unfold rF1 at this ⊢
  rw [h1 (s + 35) (by omega), h1 (s + 39) (by omega), h2, h3, h4]
  exact this
theorem rG.cg (h : rG μ ν) (h1 : μ' 5 1 = μ 5 1) (h2 : μ' 26 = μ 26) (h3 : ν' 0 35 = ν 0 35) (h4 : ν' 29 = ν 29) : rG μ' ν' := by
  unfold rG
  rw [h1, h2, h3, h4]
  exact h
theorem rH.cg (h : rH μ ν) (h1 : μ' 4 1 = μ 4 1) (h2 : μ' 25 = μ 25) (h3 : ν' 0 39 = ν 0 39) (h4 : ν' 31 = ν 31) : rH μ' ν' := by
  unfold rH
  rw [h1, h2, h3, h4]
  exact h
theorem w_Z.cg (h : w_Z μ) (h1 : μ' 20 = μ 20) (h2 : μ' 21 = μ 21) (h3 : μ' 22 = μ 22) : w_Z μ' := by
  unfold w_Z
  rw [h1, h2, h3]
  exact h
theorem rel.scr (h : rel μ ν) (hs : w_sc μ μ') (hz : w_Z μ') (hm : w_sm ν ν') : rel μ' ν' := by
  obtain ⟨-, hA, hS, hB, hC, hD, hE, hF, hG, hH⟩ := h
  have e : ∀ a, (a < 19 ∨ 23 < a) → μ' a = μ a := hs
  have f : ∀ a, (a < 24 ∨ 28 < a) → ν' a = ν a := hm
  exact ⟨hz, hA.cg (by rw [e 1 (by omega)]) (by rw [f 0 (by omega)]) (fun e' _ => e _ (by omega)) (fun a _ _ => f a (by omega)), hS.cg (by rw [e 1 (by omega)]) (by rw [e 1 (by omega)]) (by rw [f 0 (by omega)]) (by rw [f 0 (by omega)]), hB.cg (e 7 (by omega)) (f 10 (by omega)), hC.cg (by rw [e 1 (by omega)]) (e 11 (by omega)) (by rw [f 0 (by omega)]) (f 11 (by omega)) (f 12 (by omega)), hD.cg (by rw [e 1 (by omega)]) (by rw [e 1 (by omega)]) (e 9 (by omega)) (e 10 (by omega)) (by rw [f 0 (by omega)]) (by rw [f 0 (by omega)]) (f 15 (by omega)) (f 16 (by omega)) (by rw [e 1 (by omega)]; exact Nat.le_refl _) (fun e' _ _ => by rw [e _ (by omega)]), hE.cg (by rw [e 2 (by omega)]) (fun a _ _ => e a (by omega)) (by rw [f 0 (by omega)]) (fun a _ _ => f a (by omega)) (by rw [e 1 (by omega)]; exact Nat.le_refl _) (fun e' _ _ => by rw [e _ (by omega)]), hF.cg (fun a _ => e a (by omega)) (f 21 (by omega)) (f 22 (by omega)) (f 23 (by omega)), hG.cg (by rw [e 5 (by omega)]) (e 26 (by omega)) (by rw [f 0 (by omega)]) (f 29 (by omega)), hH.cg (by rw [e 4 (by omega)]) (e 25 (by omega)) (by rw [f 0 (by omega)]) (f 31 (by omega))⟩
theorem rel.IX (h : rel μ ν) : w_IX μ := by
  obtain ⟨hZ, hA, hS, hB, hC, hD, hE, hF, hG, hH⟩ := h
  refine ⟨hA.1, hE.2.1, hZ, fun e he => (hA.2.2 e he).1.1, fun i hi => ?_, hH.2.1, hG.2.1, hD.1.2.1, hC.2.1⟩
  obtain ⟨-, -, -, a4, e, b1, -, b3, -, b5, -⟩ := hE.2.2 i hi
  exact ⟨a4, e, b1, b3, fun k2 => (b5 k2).1⟩
theorem rel.JX (h : rel μ ν) : w_JX ν := by
  obtain ⟨hZ, hA, hS, hB, hC, hD, hE, hF, hG, hH⟩ := h
  unfold w_JX
  rw [hA.2.1, hE.1, hC.1, hD.1.1, hG.1, hH.1]
  exact ⟨hA.1, hE.2.1, hC.2.1, hD.1.2.1, hG.2.1, hH.2.1⟩
theorem rel.JV (h : rel μ ν) : wm_JV ν := by
  refine ⟨h.JX, fun e he => ?_, fun i hi => ?_⟩
  · have := h.2.1.2.2 e he
    rw [this.1.2.1]
    exact this.2.1.1
  · obtain ⟨hZ, hA, hS, hB, hC, hD, hE, hF, hG, hH⟩ := h
    rw [hE.1] at hi
    obtain ⟨a1, a2, a3, a4, e, b1, b2, b3, b4, b5, b6⟩ := hE.2.2 i hi
    have hk := (hA.2.2 e b1).1.2.1
    refine ⟨by rw [a2]; exact a4, e, b1, a1.trans b3, fun k2 => ?_, fun k1 => ?_⟩
    · rw [hk] at k2
      rw [a3, b4, if_neg (by rw [k2]; decide)]
      exact b5 k2
    · rw [hk] at k1
      rw [b4, if_pos k1]
      obtain ⟨y1, y2⟩ := b6 k1
      obtain ⟨-, c2, c3, -⟩ := hA.2.2 e b1
      rw [(c3 b2).2.1, i_lt, fb_subI (by have := c2.2.2.2.2; omega) (by have := c2.2.2.2.2; omega)]
      have e1 : (1 : Int32).toInt = 1 := rfl
      have := c2.2.2.2.2.1
      omega
theorem rel.IS (h : rel μ ν) : w_IS μ := fun s hs => (h.2.2.2.2.2.2.2.1 s hs).2.1
theorem rel.JS (h : rel μ ν) : w_JS ν := fun s hs => by
  have := h.2.2.2.2.2.2.2.1 s hs
  rw [this.1]
  exact this.2.1
theorem rel.LY (h : rel μ ν) : w_LY μ := ⟨fun e he => (h.2.1.2.2 e he).2.1.2.1, h.2.2.1.2.2.1, h.2.2.1.2.2.2⟩
theorem rel.MLY (h : rel μ ν) : wm_LY ν := by
  refine ⟨fun e he => ?_, ?_, ?_, ?_⟩
  · have := h.2.1.2.2 e he
    rw [this.1.2.2.2.1]
    exact this.2.1.2.1
  · rw [h.2.2.1.1]; exact h.2.2.1.2.2.1
  · rw [h.2.2.1.2.1]; exact h.2.2.1.2.2.2
  · rw [h.2.2.2.2.1.1]; exact h.2.2.2.2.1.2.1
theorem rel.DY (h : rel μ ν) : w_DY μ := by
  obtain ⟨hZ, hA, hS, hB, hC, hD, hE, hF, hG, hH⟩ := h
  refine ⟨hD.1.2.1, fun i hi => ?_⟩
  obtain ⟨-, E, P, K, a2, a3, a4, a5, a6, a7, a8⟩ := hD.2.1 i hi
  exact ⟨E, P, K, a3, a4, (hA.2.2 E a3).1.1, a5, a6, a7, a8⟩
theorem rel.has (h : rel μ ν) (e : Int32) : w_hasB (μ 1 1) e = w_inB e 0 (ν 0 0 - 1) := by rw [h.2.1.2.1]; exact has_eq h.2.1.1
/-- an event there is -/
theorem rel.ev (h : rel μ ν) {e : Int32} (z : w_hasB (μ 1 1) e = true) : ∃ E : Nat, e = nI E ∧ e.toNatClampNeg = E ∧ E < 8 ∧ E < (μ 1 1).toNatClampNeg := by
  obtain ⟨E, hE, hEn, hEc⟩ := vp_in_le (has_in h.2.1.1 z) (by decide)
  obtain ⟨C, hC, hCn, hCc⟩ := vp_in_le h.2.1.1 (by decide)
  refine ⟨E, hEn, hEc, hE, ?_⟩
  have := (w_hasB_t.mp z).2
  rw [hCn, hEn] at this
  rw [hCc]
  exact (nI_ltI (by omega) (by omega)).mp this
theorem w_tks_cg {hit hit' : Nat → Bool} {stp stp' : Nat → wB → wB} : ∀ (n : Nat) (t : wB), (∀ i, i < n → hit i = hit' i ∧ (hit i = true → ∀ t, stp i t = stp' i t)) → w_tks hit stp n t = w_tks hit' stp' n t := by
  intro n
  induction n with
  | zero => intro t _; rfl
  | succ n ih =>
    intro t h
    rw [w_tks, w_tks]
    obtain ⟨h1, h2⟩ := h n (by omega)
    have e : (if hit n = true then stp n t else t) = (if hit' n = true then stp' n t else t) := by
      rw [← h1]
      by_cases c : hit n = true
      · rw [if_pos c, if_pos c, h2 c]
      · rw [if_neg c, if_neg c]
    rw [e]
    exact ih _ (fun i hi => h i (by omega))
theorem w_take_y {k g sl way : Int32} {m : Nat} {a b y y' : Int32} {t : wB} (h : ¬ k = 1) : w_take k g sl way m a b y t = w_take k g sl way m a b y' t := by
  unfold w_take
  rw [if_neg h, if_neg h]
theorem w_take_b {g sl way : Int32} {m : Nat} {a b b' y : Int32} {t : wB} : w_take 1 g sl way m a b y t = w_take 1 g sl way m a b' y t := by
  unfold w_take
  simp only [show ¬ (1 : Int32) = 2 from by decide, show ¬ (1 : Int32) = 0 from by decide, if_false, if_true]
theorem rel.TT (h : rel μ ν) {E N : Nat} (hE : E < 8) (hEc : E < (μ 1 1).toNatClampNeg) (hN : N ≤ (μ 2 5).toNatClampNeg) : w_TT μ (E + 27) N = wm_TT ν (nI E) N := by
  obtain ⟨hZ, hA, hS, hB, hC, hD, hEn, hF, hG, hH⟩ := h
  obtain ⟨⟨n0, n1, n2, n3, n4, n5, n6, n8⟩, -, c3, -⟩ := hA.2.2 E hE
  obtain ⟨n7, n9, -⟩ := c3 hEc
  have eE : (nI E).toNatClampNeg = E := nI_clamp (by omega)
  rw [wm_TT_rb, eE, n1, n7, n8, n9]
  unfold w_TT w_rb
  rw [n0]
  have key : w_tks (fun i => decide (μ 14 i = nI E)) (fun i t => w_take (μ (E + 27) 1) (μ (E + 27) 7) (μ (E + 27) 8) (μ (E + 27) 9) (μ 15 i).toNatClampNeg (μ 16 i) (μ 17 i) (μ 18 i) t) N w_c0 = w_tks (fun i => decide (ν 17 i = nI E)) (fun i t => w_take (μ (E + 27) 1) (μ (E + 27) 7) (μ (E + 27) 8) (μ (E + 27) 9) (ν 18 i).toNatClampNeg (ν 19 i) (ν 20 i) (ν 20 i) t) N w_c0 := by
    refine w_tks_cg N w_c0 (fun i hi => ?_)
    obtain ⟨a1, a2, a3, a4, e, b1, b2, b3, b4, b5, b6⟩ := hEn.2.2 i (by omega)
    rw [a1, a2, a3]
    refine ⟨rfl, fun hh t => ?_⟩
    have he := of_decide_eq_true hh
    rw [b3] at he
    have : e = E := (nI_eq (by omega) (by omega)).mp he
    subst this
    by_cases k1 : μ (e + 27) 1 = 1
    · rw [b4, if_pos k1, k1]
      exact w_take_b
    · rw [b4, if_neg k1]
      exact w_take_y k1
  rw [key]
theorem rel.pl (h : rel μ ν) {E N : Nat} (hE : E < 8) (hEc : E < (μ 1 1).toNatClampNeg) (hN : N ≤ (μ 2 5).toNatClampNeg) : w_pl μ (E + 27) N = wm_pl ν (nI E) N := by
  funext m
  unfold w_pl wm_pl
  have eE : (nI E).toNatClampNeg = E := nI_clamp (by omega)
  obtain ⟨⟨n0, n1, n2, n3, n4, n5, n6, n8⟩, -, c3, -⟩ := h.2.1.2.2 E hE
  rw [h.TT hE hEc hN, eE, n1, n6]
theorem rel.asof (h : rel μ ν) {n : Int32} (z : w_inB n 0 (μ 2 5) = true) : n.toNatClampNeg ≤ (μ 2 5).toNatClampNeg := by
  obtain ⟨C, hC, hCn, hCc⟩ := vp_in_le h.2.2.2.2.2.2.1.2.1 (by decide)
  obtain ⟨z1, z2⟩ := w_inB_t.mp z
  rw [hCn] at z2
  rw [hCc]
  exact (cl_le (by omega)).mp z2
theorem w_cnt_not {p : Nat → Bool} : ∀ n, w_cnt (fun j => !p j) n + w_cnt p n = n := by
  intro n
  induction n with
  | zero => rfl
  | succ n ih =>
    unfold w_cnt
    cases p n <;> simp <;> omega
theorem rel.tld (h : rel μ ν) {E N : Nat} (hE : E < 8) (hEc : E < (μ 1 1).toNatClampNeg) (hN : N ≤ (μ 2 5).toNatClampNeg) : w_tld μ (E + 27) N = nI (w_cnt (wm_td ν (nI E) N) 10) := by
  unfold w_tld
  rw [h.pl hE hEc hN]
  have e : w_cnt (fun j => decide (wm_pl ν (nI E) N j = 0)) 10 = w_cnt (fun j => !(wm_td ν (nI E) N j)) 10 := w_cnt_cg (fun j _ => by
    cases q : wm_td ν (nI E) N j with
    | false => rw [decide_eq_true (wm_pl_td.1.mpr q)]; rfl
    | true => rw [decide_eq_false (fun z => by rw [wm_pl_td.1.mp z] at q; cases q)]; rfl)
  have := w_cnt_not (p := wm_td ν (nI E) N) 10
  rw [e, show (10 : Int32) = nI 10 from rfl, nI_dif (by omega)]
  exact congrArg nI (by omega)
end RELCG
