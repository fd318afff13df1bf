theorem bits_len : ∀ b, b < 256 → w_bits (nI b) = nI (bitL b).length := by decide +kernel
theorem shl_m1 : ∀ c, c < 9 → ((1 : Int32) <<< (nI c &&& 31)) - 1 = nI (2 ^ c - 1) := by decide +kernel
theorem bitL_c : ∀ c, c < 9 → ∀ b, b < 256 → (b < 2 ^ c → (List.range c).filter (fun e => b.testBit e) = bitL b) := by decide +kernel
def goodQ (D : wD) (n : Nat) (q : List Nat) : Prop := q.length = n ∧ q.Nodup ∧ ∀ e, e ∈ q → e < 8 ∧ 1 ≤ D.sp e
theorem permsL_ok : ∀ (n : Nat) (rem : List Nat), rem.length = n → rem.Nodup → ∀ q, q ∈ permsL n rem → q.length = n ∧ q.Nodup ∧ ∀ e, e ∈ q → e ∈ rem := by
  intro n
  induction n with
  | zero =>
    intro rem hl hn q hq
    rw [permsL] at hq
    have := List.mem_singleton.mp hq
    subst this
    exact ⟨rfl, List.nodup_nil, fun e he => by cases he⟩
  | succ n ih =>
    intro rem hl hn q hq
    rw [permsL] at hq
    obtain ⟨e, he, hq⟩ := List.mem_flatMap.mp hq
    obtain ⟨q', hq', rfl⟩ := List.mem_map.mp hq
    obtain ⟨a1, a2, a3⟩ := ih (rem.erase e) (by rw [List.length_erase_of_mem he]; omega) (hn.erase e) q' hq'
    refine ⟨by rw [List.length_cons, a1], List.nodup_cons.mpr ⟨fun z => ?_, a2⟩, fun x hx => ?_⟩
    · exact (List.Nodup.mem_erase_iff hn).mp (a3 e z) |>.1 rfl
    · rcases List.mem_cons.mp hx with z | z
      · rw [z]; exact he
      · exact List.mem_of_mem_erase (a3 x z)
def repM (ν ν0 : wM) (n : Nat) (B : wBst) : Prop := (B.1 = 1000 → ν 15 = ν0 15 ∧ ν 16 = ν0 16 ∧ ν 0 18 = ν0 0 18 ∧ ν 0 19 = ν0 0 19) ∧ (¬ B.1 = 1000 → ν 0 18 = 1 ∧ ν 0 19 = nI n ∧ B.2.1.length = n ∧ (∀ i, i < n → ν 15 i = nI (B.2.1.getD i 0)) ∧ ∀ e, e < 8 → ν 16 e = if e ∈ B.2.1 then nI (B.2.2 e) else -1)
theorem fold_2 {D : wD} {pre : List Nat} {bg : Nat → Nat} {en : Nat} : ∀ (l : List (List Nat)) (B B' : wBst), B.1 = B'.1 → l.foldl (oneB D pre bg en) B = l.foldl (oneB D pre bg en) B' ∨ (l.foldl (oneB D pre bg en) B = B ∧ l.foldl (oneB D pre bg en) B' = B') := by
  intro l
  induction l with
  | nil => intro B B' _; exact Or.inr ⟨rfl, rfl⟩
  | cons q l ih =>
    intro B B' h
    rw [List.foldl_cons, List.foldl_cons]
    have : oneB D pre bg en B q = oneB D pre bg en B' q ∨ (oneB D pre bg en B q = B ∧ oneB D pre bg en B' q = B') := by
      unfold oneB
      split
      · next r _ =>
        by_cases c : r.1 < B.1
        · rw [if_pos c, if_pos (by omega)]; exact Or.inl rfl
        · rw [if_neg c, if_neg (by omega)]; exact Or.inr ⟨rfl, rfl⟩
      · exact Or.inr ⟨rfl, rfl⟩
    rcases this with h1 | ⟨h1, h2⟩
    · rw [h1]; exact Or.inl rfl
    · rw [h1, h2]; exact ih B B' h
def bestI (B : wBst) : Int32 := if B.1 = 1000 then -1 else nI B.1
theorem dM_cg {μ ν : wM} (h : ∀ a, a ≠ 0 → a ≠ 13 → a ≠ 14 → a ≠ 15 → a ≠ 16 → ν a = μ a) (h0 : ∀ j, j ≠ 18 → j ≠ 19 → ν 0 j = μ 0 j) : dM ν = dM μ := by
  unfold dM
  rw [h 3 (by decide) (by decide) (by decide) (by decide) (by decide), h 11 (by decide) (by decide) (by decide) (by decide) (by decide), h 12 (by decide) (by decide) (by decide) (by decide) (by decide), h 4 (by decide) (by decide) (by decide) (by decide) (by decide), h 2 (by decide) (by decide) (by decide) (by decide) (by decide), h0 11 (by decide) (by decide), h0 12 (by decide) (by decide), h0 13 (by decide) (by decide)]
theorem wm_LY.cg {μ ν : wM} (hL : wm_LY μ) (h : ∀ a, a ≠ 0 → a ≠ 13 → a ≠ 14 → a ≠ 15 → a ≠ 16 → ν a = μ a) (h0 : ∀ j, j ≠ 18 → j ≠ 19 → ν 0 j = μ 0 j) : wm_LY ν := by
  unfold wm_LY
  rw [h 3 (by decide) (by decide) (by decide) (by decide) (by decide), h0 11 (by decide) (by decide), h0 12 (by decide) (by decide), h0 13 (by decide) (by decide)]
  exact hL
/-! X8_lay -/
def pX8_lay (a : Int32) (μ : wM) : Prop := wm_LY μ ∧ vp_in (μ 0 0) 9 ∧ ∀ e, e < (μ 0 0).toNatClampNeg → 1 ≤ (dM μ).sp e
def qX8_lay (a : Int32) (μ : wM) (r : Int32) (μ' : wM) : Prop := (¬ w_inB a 1 (((1 : Int32) <<< (μ 0 0 &&& 31)) - 1) = true → r = -1 ∧ μ' = μ) ∧ (w_inB a 1 (((1 : Int32) <<< (μ 0 0 &&& 31)) - 1) = true → ¬ w_bits a ≤ 6 → r = -3 ∧ μ' = μ) ∧ (w_inB a 1 (((1 : Int32) <<< (μ 0 0 &&& 31)) - 1) = true → w_bits a ≤ 6 → ∀ b : Nat, a = nI b → b < 256 → ∀ B0 : wBst, B0.1 = 1000 → r = (if (layF (dM μ) b B0).1 = 1000 then -2 else nI (layF (dM μ) b B0).1) ∧ (∀ a, a ≠ 0 → a ≠ 13 → a ≠ 14 → a ≠ 15 → a ≠ 16 → μ' a = μ a) ∧ (∀ j, j ≠ 18 → j ≠ 19 → μ' 0 j = μ 0 j) ∧ repM μ' μ (bitL b).length (layF (dM μ) b B0))
def sX8_lay : wS := (false, false, 2, fun as μ => ∃ a, as = [.ref 0, .int a] ∧ pX8_lay a μ, fun as μ r μ' => match as with
  | [.ref _, .int a] => qX8_lay a μ r μ'
  | _ => False)
def gX8_lay : Nat → Option wS := fun k => match k with
  | 1 => some sX8_in
  | 131 => some sX8_bits
  | 145 => some sX8_layRow
  | 148 => some sX8_keep
  | 152 => some sX8_countsUp
  | _ => none
def uX8_lay : Nat → Option (List Nat) := fun j => match j with | 24 => some [5, 6] | 47 => some [6] | _ => none
set_option maxHeartbeats 4000000 in
set_option maxRecDepth 100000 in
theorem vcX8_lay_0 (K : wK) (R : Int32 → wM → Prop) (a : Int32) (μ : wM) (h : (
    ((w_inB a 1 ((1 <<< ((μ 0 0) &&& 31)) - 1)) = false → R (-1) μ) ∧
    ((w_inB a 1 ((1 <<< ((μ 0 0) &&& 31)) - 1)) = true → (
      ((((w_bits a) : Int32) ≤ 6) → K 24 [some (.ref 0), some (.int a), some (.int (w_bits a)), some (.int 0), some (.int 0), none, none] [] μ) ∧
      (¬ (((w_bits a) : Int32) ≤ 6) → R (-3) μ))))) : w_n 8 gX8_lay shM rfM 32 (some .int) R tX8_lay uX8_lay K 25 0 [some (.ref 0), some (.int a), none, none, none, none, none] [] μ :=
  And.intro (And.intro (of_decide_eq_true rfl) rfl) (And.intro (Exists.intro _ (Exists.intro _ (Exists.intro _ (And.intro rfl (trivial))))) (fun _ _ z3491 => by obtain ⟨z3489, z3490⟩ := z3491; have z3489 := z3489.symm; have z3490 := z3490.symm; subst z3489; subst z3490; exact And.intro (fun z3492 => And.intro trivial ((h.1 (w_B01_0.mp z3492)))) (fun z3493 => And.intro (Exists.intro _ (And.intro rfl (trivial))) (fun _ _ z3496 => by obtain ⟨z3494, z3495⟩ := z3496; have z3494 := z3494.symm; have z3495 := z3495.symm; subst z3494; subst z3495; exact And.intro (fun z3497 => ((h.2 (w_B01_n.mp z3493)).1 z3497)) (fun z3498 => And.intro trivial (((h.2 (w_B01_n.mp z3493)).2 z3498)))))))
set_option maxHeartbeats 4000000 in
set_option maxRecDepth 100000 in
theorem vcX8_lay_24 (K : wK) (R : Int32 → wM → Prop) (a : Int32) (l2 : Int32) (l3 : Int32) (l4 : Int32) (μ : wM) (h : (
    ((((μ 0 0) : Int32) ≤ l4) → K 47 [some (.ref 0), some (.int a), some (.int l2), some (.int l3), some (.int (-1)), some (.int 1), none] [] μ) ∧
    (¬ (((μ 0 0) : Int32) ≤ l4) → (
      (((((a >>> (l4 &&& 31)) &&& 1) : Int32) = 1) → (vp_in l3 6) ∧ K 24 [some (.ref 0), some (.int a), some (.int l2), some (.int (l3 + 1)), some (.int (l4 + 1)), none, none] [] (w_up μ 13 (l3 : Int32).toNatClampNeg l4)) ∧
      (¬ ((((a >>> (l4 &&& 31)) &&& 1) : Int32) = 1) → K 24 [some (.ref 0), some (.int a), some (.int l2), some (.int l3), some (.int (l4 + 1)), none, none] [] μ))))) : w_n 8 gX8_lay shM rfM 32 (some .int) R tX8_lay uX8_lay K 25 24 [some (.ref 0), some (.int a), some (.int l2), some (.int l3), some (.int l4), none, none] [] μ :=
  And.intro (And.intro (of_decide_eq_true rfl) rfl) (And.intro (fun z3499 => (h.1 z3499)) (fun z3500 => And.intro (fun z3501 => And.intro (And.intro (of_decide_eq_true rfl) rfl) (And.intro (And.intro (of_decide_eq_true rfl) (Exists.intro _ (And.intro rfl (((h.2 z3500).1 z3501).1)))) (((h.2 z3500).1 z3501).2))) (fun z3502 => ((h.2 z3500).2 z3502))))
set_option maxHeartbeats 4000000 in
set_option maxRecDepth 100000 in
theorem vcX8_lay_47 (K : wK) (R : Int32 → wM → Prop) (a : Int32) (l2 : Int32) (l3 : Int32) (l4 : Int32) (l5 : Int32) (μ : wM) (h : (
    (((l5 : Int32) = 0) → (
      (((0 : Int32) ≤ l4) → R l4 μ) ∧
      (¬ ((0 : Int32) ≤ l4) → R (-2) μ))) ∧
    (¬ ((l5 : Int32) = 0) → pX8_layRow l2 μ ∧ (∀ (r1 : Int32) (m2 : wM), qX8_layRow l2 μ r1 m2 →
      (
        (((r1 : Int32) < 0) → pX8_countsUp l2 m2 ∧ (∀ (r3 : Int32) (m4 : wM), qX8_countsUp l2 m2 r3 m4 →
          K 47 [some (.ref 0), some (.int a), some (.int l2), some (.int l3), some (.int l4), some (.int r3), none] [] m4)) ∧
        (¬ ((r1 : Int32) < 0) → (
          (((l4 : Int32) < 0) → pX8_keep l2 m2 ∧ (∀ (r5 : Int32) (m6 : wM), qX8_keep l2 m2 r5 m6 →
            pX8_countsUp l2 m6 ∧ (∀ (r7 : Int32) (m8 : wM), qX8_countsUp l2 m6 r7 m8 →
              K 47 [some (.ref 0), some (.int a), some (.int l2), some (.int l3), some (.int r1), some (.int r7), none] [] m8))) ∧
          (¬ ((l4 : Int32) < 0) → (
            (((l4 : Int32) ≤ r1) → pX8_countsUp l2 m2 ∧ (∀ (r9 : Int32) (m10 : wM), qX8_countsUp l2 m2 r9 m10 →
              K 47 [some (.ref 0), some (.int a), some (.int l2), some (.int l3), some (.int l4), some (.int r9), none] [] m10)) ∧
            (¬ ((l4 : Int32) ≤ r1) → pX8_keep l2 m2 ∧ (∀ (r11 : Int32) (m12 : wM), qX8_keep l2 m2 r11 m12 →
              pX8_countsUp l2 m12 ∧ (∀ (r13 : Int32) (m14 : wM), qX8_countsUp l2 m12 r13 m14 →
                K 47 [some (.ref 0), some (.int a), some (.int l2), some (.int l3), some (.int r1), some (.int r13), none] [] m14)))))))))))) : w_n 8 gX8_lay shM rfM 32 (some .int) R tX8_lay uX8_lay K 25 47 [some (.ref 0), some (.int a), some (.int l2), some (.int l3), some (.int l4), some (.int l5), none] [] μ :=
  And.intro (fun z3503 => And.intro (fun z3505 => And.intro trivial (((h.1 z3503).1 z3505))) (fun z3506 => And.intro trivial (((h.1 z3503).2 z3506)))) (fun z3504 => And.intro (Exists.intro _ (And.intro rfl ((h.2 z3504).1))) (fun r1 m2 z3507 => And.intro (fun z3508 => And.intro (Exists.intro _ (And.intro rfl ((((h.2 z3504).2 r1 m2 z3507).1 z3508).1))) (fun r3 m4 z3510 => ((((h.2 z3504).2 r1 m2 z3507).1 z3508).2 r3 m4 z3510))) (fun z3509 => And.intro (fun z3511 => And.intro (Exists.intro _ (And.intro rfl (((((h.2 z3504).2 r1 m2 z3507).2 z3509).1 z3511).1))) (fun r5 m6 z3513 => And.intro (Exists.intro _ (And.intro rfl ((((((h.2 z3504).2 r1 m2 z3507).2 z3509).1 z3511).2 r5 m6 z3513).1))) (fun r7 m8 z3514 => ((((((h.2 z3504).2 r1 m2 z3507).2 z3509).1 z3511).2 r5 m6 z3513).2 r7 m8 z3514)))) (fun z3512 => And.intro (fun z3515 => And.intro (Exists.intro _ (And.intro rfl ((((((h.2 z3504).2 r1 m2 z3507).2 z3509).2 z3512).1 z3515).1))) (fun r9 m10 z3517 => ((((((h.2 z3504).2 r1 m2 z3507).2 z3509).2 z3512).1 z3515).2 r9 m10 z3517))) (fun z3516 => And.intro (Exists.intro _ (And.intro rfl ((((((h.2 z3504).2 r1 m2 z3507).2 z3509).2 z3512).2 z3516).1))) (fun r11 m12 z3518 => And.intro (Exists.intro _ (And.intro rfl (((((((h.2 z3504).2 r1 m2 z3507).2 z3509).2 z3512).2 z3516).2 r11 m12 z3518).1))) (fun r13 m14 z3519 => (((((((h.2 z3504).2 r1 m2 z3507).2 z3509).2 z3512).2 z3516).2 r11 m12 z3518).2 r13 m14 z3519))))))))
set_option maxHeartbeats 4000000 in
theorem vX8_lay (a : Int32) (μ : wM) (h : pX8_lay a μ) (K : wK) (hK : w_cl 8 gX8_lay shM rfM 32 (some .int) (qX8_lay a μ) tX8_lay K) : K 0 [some (.ref 0), some (.int a), none, none, none, none, none] [] μ := by
  unfold pX8_lay at h
  obtain ⟨hL, h0, hsp⟩ := h
  obtain ⟨C, hC, hCn, hCc⟩ := vp_in_le h0 (by decide)
  rw [hCc] at hsp
  refine hK uX8_lay 25 _ _ _ _ (vcX8_lay_0 K _ a μ ?_)
  refine ⟨fun c => ⟨fun _ => ⟨rfl, rfl⟩, fun z => (by rw [c] at z; cases z), fun z => (by rw [c] at z; cases z)⟩, fun c => ⟨fun c2 => ?_, fun c2 => ⟨fun z => absurd c z, fun _ _ => ⟨rfl, rfl⟩, fun _ z => absurd z c2⟩⟩⟩
  obtain ⟨b, rfl, hb256, hbC, hb0⟩ : ∃ b : Nat, a = nI b ∧ b < 256 ∧ b < 2 ^ C ∧ ¬ b = 0 := by
    have c' := c
    rw [hCn, shl_m1 C hC] at c'
    obtain ⟨z1, z2⟩ := w_inB_t.mp c'
    have : ¬ a < 0 := fun q => by
      have q1 := i_lt.mp q
      have q2 := i_le.mp z1
      have e0 : (0 : Int32).toInt = 0 := rfl
      have e1 : (1 : Int32).toInt = 1 := rfl
      omega
    obtain ⟨b, hb, rfl⟩ := nI_of this
    have h256 : 2 ^ C ≤ 256 := Nat.pow_le_pow_right (n := 2) (by decide) (show C ≤ 8 by omega)
    have hpos : 1 ≤ 2 ^ C := Nat.one_le_two_pow
    have z2 := (nI_leI hb (by omega)).mp z2
    have z1 := (nI_leI (a := 1) (by omega) hb).mp z1
    exact ⟨b, rfl, by omega, by omega, by omega⟩
  rw [bits_len b hb256] at c2 ⊢
  have hlen8 : (bitL b).length ≤ 8 := by
    unfold bitL
    exact Nat.le_trans (List.length_filter_le _ _) (by rw [List.length_range]; exact Nat.le_refl _)
  have hlen6 : (bitL b).length ≤ 6 := (nI_leI (b := 6) (by omega) (by omega)).mp c2
  have hchain := chain_all b hb256 hb0 hlen6
  have hnodS : (bitL b).Nodup := List.Pairwise.filter _ List.nodup_range
  have hmemS : ∀ e, e ∈ bitL b → e < 8 ∧ 1 ≤ (dM μ).sp e := by
    intro e he
    unfold bitL at he
    obtain ⟨q1, q2⟩ := List.mem_filter.mp he
    refine ⟨List.mem_range.mp q1, hsp e ?_⟩
    rcases Nat.lt_or_ge e C with q | q
    · exact q
    · have : b.testBit e = false := Nat.testBit_lt_two_pow (Nat.lt_of_lt_of_le hbC (Nat.pow_le_pow_right (n := 2) (by decide) q))
      rw [this] at q2
      cases q2
  have hgood : ∀ q, q ∈ permsL (bitL b).length (bitL b) → goodQ (dM μ) (bitL b).length q := by
    intro q hq
    obtain ⟨a1, a2, a3⟩ := permsL_ok _ _ rfl hnodS q hq
    exact ⟨a1, a2, fun e he => hmemS e (a3 e he)⟩
  have hn1 : 1 ≤ (bitL b).length := by
    rcases Nat.eq_zero_or_pos (bitL b).length with q | q
    · exfalso
      have := (bits_0 b hb256).1.mpr ((bits_0 b hb256).2.mp q)
      exact hb0 ((nI_eq (b := 0) (by omega) (by omega)).mp this)
    · exact q
  have inj : ∀ b' : Nat, nI b = nI b' → b' < 256 → b = b' := fun b' h1 h2 => (nI_eq (by omega) (by omega)).mp h1
  have fin : ∀ (B : wBst) (ν : wM) (l3 : Int32), B.1 ≤ 1000 → (∀ B0 : wBst, B0.1 = 1000 → (layF (dM μ) b B0).1 = B.1 ∧ (¬ B.1 = 1000 → layF (dM μ) b B0 = B)) → (∀ a, a ≠ 0 → a ≠ 13 → a ≠ 14 → a ≠ 15 → a ≠ 16 → ν a = μ a) → (∀ j, j ≠ 18 → j ≠ 19 → ν 0 j = μ 0 j) → repM ν μ (bitL b).length B → K 47 [some (.ref 0), some (.int (nI b)), some (.int (nI (bitL b).length)), some (.int l3), some (.int (bestI B)), some (.int 0), none] [] ν := by
    intro B ν l3 hB1 hB hf hf0 hrep
    refine hK uX8_lay 25 _ _ _ _ (vcX8_lay_47 K _ (nI b) (nI (bitL b).length) l3 (bestI B) 0 ν ?_)
    have key : ∀ v : Int32, v = (if B.1 = 1000 then -2 else nI B.1) → qX8_lay (nI b) μ v ν := by
      intro v hv
      refine ⟨fun z => absurd c z, fun _ z => absurd (by rw [bits_len b hb256]; exact c2) z, fun _ _ b' e1 e2 B0 hB0 => ?_⟩
      have := inj b' e1 e2
      subst this
      obtain ⟨k1, k2⟩ := hB B0 hB0
      refine ⟨by rw [k1]; exact hv, hf, hf0, ?_⟩
      by_cases q : B.1 = 1000
      · exact ⟨fun _ => hrep.1 q, fun z => absurd (k1.trans q) z⟩
      · rw [k2 q]; exact hrep
    refine ⟨fun _ => ⟨fun z => key _ ?_, fun z => key _ ?_⟩, fun z => absurd rfl z⟩
    · unfold bestI at z ⊢
      by_cases q : B.1 = 1000
      · rw [if_pos q] at z; exact absurd z (by decide)
      · rw [if_neg q, if_neg q]
    · unfold bestI at z
      by_cases q : B.1 = 1000
      · rw [if_pos q]
      · rw [if_neg q] at z; exact absurd (nI_pos' (by omega)) z
  have body : ∀ (p : List Nat) (B : wBst) (ν : wM) (l3 : Int32), goodQ (dM μ) (bitL b).length p → (∀ i, i < (bitL b).length → ν 13 i = nI (p.getD i 0)) → (∀ a, a ≠ 0 → a ≠ 13 → a ≠ 14 → a ≠ 15 → a ≠ 16 → ν a = μ a) → (∀ j, j ≠ 18 → j ≠ 19 → ν 0 j = μ 0 j) → repM ν μ (bitL b).length B → (B.1 = 1000 ∨ B.1 ≤ 60) → (∀ ν' : wM, (∀ a, a ≠ 0 → a ≠ 13 → a ≠ 14 → a ≠ 15 → a ≠ 16 → ν' a = μ a) → (∀ j, j ≠ 18 → j ≠ 19 → ν' 0 j = μ 0 j) → repM ν' μ (bitL b).length (oneB (dM μ) [] (fun _ => 0) 0 B p) → ((oneB (dM μ) [] (fun _ => 0) 0 B p).1 = 1000 ∨ (oneB (dM μ) [] (fun _ => 0) 0 B p).1 ≤ 60) → rowF ν' (fun x => p.getD x 0) (bitL b).length → ∀ (r : Int32) (m : wM), qX8_countsUp (nI (bitL b).length) ν' r m → K 47 [some (.ref 0), some (.int (nI b)), some (.int (nI (bitL b).length)), some (.int l3), some (.int (bestI (oneB (dM μ) [] (fun _ => 0) 0 B p))), some (.int r), none] [] m) → K 47 [some (.ref 0), some (.int (nI b)), some (.int (nI (bitL b).length)), some (.int l3), some (.int (bestI B)), some (.int 1), none] [] ν := by
    intro p B ν l3 hg hrow hf hf0 hrep hB cont
    obtain ⟨hpl, hpn, hpe⟩ := hg
    have hdν := dM_cg hf hf0
    have hP : ∀ ν' : wM, dM ν' = dM μ → ν' 13 = ν 13 → rowP ν' p := fun ν' h1 h2 => ⟨by omega, hpn, fun e he => by rw [h1]; exact hpe e he, fun i hi => by rw [h2]; exact hrow i (by omega)⟩
    have hF : ∀ ν' : wM, ν' 13 = ν 13 → rowF ν' (fun x => p.getD x 0) (bitL b).length := fun ν' h2 => ⟨hn1, hlen6, fun x hx => ⟨by rw [h2]; exact hrow x hx, (hpe _ (getD_mem (by omega))).1⟩⟩
    refine hK uX8_lay 25 _ _ _ _ (vcX8_lay_47 K _ (nI b) (nI (bitL b).length) l3 (bestI B) 1 ν ?_)
    refine ⟨fun z => absurd z (by decide), fun _ => ⟨⟨hL.cg hf hf0, p, by rw [hpl], hP ν hdν rfl⟩, fun r1 m2 hq => ?_⟩⟩
    obtain ⟨g1, g2, g3⟩ := hq p (by rw [hpl]) (hP ν hdν rfl)
    rw [hdν] at g2 g3
    have f2 : ∀ a, a ≠ 0 → a ≠ 13 → a ≠ 14 → a ≠ 15 → a ≠ 16 → m2 a = μ a := fun a a0 a1 a2 a3 a4 => (g1 a a2).trans (hf a a0 a1 a2 a3 a4)
    have f20 : ∀ j, j ≠ 18 → j ≠ 19 → m2 0 j = μ 0 j := fun j j1 j2 => by rw [g1 0 (by decide)]; exact hf0 j j1 j2
    have rep2 : repM m2 μ (bitL b).length B := by
      unfold repM at hrep ⊢
      rw [g1 0 (by decide), g1 15 (by decide), g1 16 (by decide)]
      exact hrep
    have go2 : oneB (dM μ) [] (fun _ => 0) 0 B p = B → pX8_countsUp (nI (bitL b).length) m2 ∧ ∀ (r : Int32) (m : wM), qX8_countsUp (nI (bitL b).length) m2 r m → K 47 [some (.ref 0), some (.int (nI b)), some (.int (nI (bitL b).length)), some (.int l3), some (.int (bestI B)), some (.int r), none] [] m := by
      intro hone
      rw [hone] at cont
      exact ⟨⟨_, _, rfl, hF m2 (g1 13 (by decide))⟩, fun r m hq => cont m2 f2 f20 rep2 hB (hF m2 (g1 13 (by decide))) r m hq⟩
    have keep2 : ∀ R : Nat × (Nat → Nat), evalL (dM μ) p [] (fun _ => 0) 0 = some R → R.1 < B.1 → r1 = nI R.1 → R.1 ≤ 60 → (∀ e, e ∈ p → m2 14 e = nI (R.2 e)) → pX8_keep (nI (bitL b).length) m2 ∧ ∀ (r5 : Int32) (m6 : wM), qX8_keep (nI (bitL b).length) m2 r5 m6 → pX8_countsUp (nI (bitL b).length) m6 ∧ ∀ (r : Int32) (m : wM), qX8_countsUp (nI (bitL b).length) m6 r m → K 47 [some (.ref 0), some (.int (nI b)), some (.int (nI (bitL b).length)), some (.int l3), some (.int r1), some (.int r), none] [] m := by
      intro R hR hlt hr1 hR60 h14
      have hone : oneB (dM μ) [] (fun _ => 0) 0 B p = (R.1, p, R.2) := by
        unfold oneB
        rw [hR]
        dsimp only
        rw [if_pos hlt]
        rfl
      rw [hone] at cont
      have hd2 : dM m2 = dM μ := dM_cg f2 f20
      refine ⟨⟨p, by rw [hpl], hP m2 hd2 (g1 13 (by decide))⟩, fun r5 m6 hk => ?_⟩
      obtain ⟨e1, e2, e3, e4, e5, e6⟩ := hk p (by rw [hpl]) (hP m2 hd2 (g1 13 (by decide)))
      have h13 : m6 13 = ν 13 := (e1 13 (by decide) (by decide) (by decide)).trans (g1 13 (by decide))
      refine ⟨⟨_, _, rfl, hF m6 h13⟩, fun r m hq => ?_⟩
      have hb2 : bestI (R.1, p, R.2) = r1 := by
        unfold bestI
        rw [if_neg (by dsimp only; omega), hr1]
      have z := cont m6 (fun a a0 a1 a2 a3 a4 => (e1 a a0 a3 a4).trans (f2 a a0 a1 a2 a3 a4)) (fun j j1 j2 => (e2 j j1 j2).trans (f20 j j1 j2)) ⟨fun z => by dsimp only at z; omega, fun _ => ⟨e3, e4, hpl, fun i hi => e5 i (by omega), fun e he => ?_⟩⟩ (Or.inr hR60) (hF m6 h13) r m hq
      · rw [hb2] at z; exact z
      · rw [e6 e he]
        by_cases q : e ∈ p
        · rw [if_pos q, if_pos q]; exact h14 e q
        · rw [if_neg q, if_neg q]
    cases hev : evalL (dM μ) p [] (fun _ => 0) 0 with
    | none =>
      have hr1 := g2 hev
      rw [hr1]
      refine ⟨fun _ => go2 ?_, fun z => absurd (by decide) z⟩
      unfold oneB
      rw [hev]
    | some R =>
      obtain ⟨hr1, hR60, h14⟩ := g3 R hev
      have hnn : ¬ r1 < 0 := by rw [hr1]; exact nI_pos (by omega)
      have hone : B.1 ≤ R.1 → oneB (dM μ) [] (fun _ => 0) 0 B p = B := by
        intro hle
        unfold oneB
        rw [hev]
        dsimp only
        rw [if_neg (by omega)]
      refine ⟨fun z => absurd z hnn, fun _ => ⟨fun c4 => ?_, fun c4 => ⟨fun c5 => go2 (hone ?_), fun c5 => ?_⟩⟩⟩
      · have hB0 : B.1 = 1000 := by
          unfold bestI at c4
          by_cases q : B.1 = 1000
          · exact q
          · rw [if_neg q] at c4; exact absurd c4 (nI_pos (by rcases hB with w | w <;> omega))
        exact keep2 R hev (by omega) hr1 hR60 h14
      · unfold bestI at c4 c5
        by_cases q : B.1 = 1000
        · rw [if_pos q] at c4; exact absurd (by decide) c4
        · rw [if_neg q, hr1] at c5
          exact (nI_leI (by rcases hB with w | w <;> omega) (by omega)).mp c5
      · unfold bestI at c4 c5
        by_cases q : B.1 = 1000
        · rw [if_pos q] at c4; exact absurd (by decide) c4
        · rw [if_neg q, hr1] at c5
          have : R.1 < B.1 := by
            rcases Nat.lt_or_ge R.1 B.1 with w | w
            · exact w
            · exact absurd (nI_le w (by omega)) c5
          exact keep2 R hev this hr1 hR60 h14
  have l47 : ∀ (rest : List (List Nat)) (p : List Nat) (B : wBst) (ν : wM) (l3 : Int32), (∀ q, q ∈ p :: rest → goodQ (dM μ) (bitL b).length q) → chainB (bitL b).length p rest = true → (∀ i, i < (bitL b).length → ν 13 i = nI (p.getD i 0)) → (∀ a, a ≠ 0 → a ≠ 13 → a ≠ 14 → a ≠ 15 → a ≠ 16 → ν a = μ a) → (∀ j, j ≠ 18 → j ≠ 19 → ν 0 j = μ 0 j) → repM ν μ (bitL b).length B → (B.1 = 1000 ∨ B.1 ≤ 60) → (∀ B0 : wBst, B0.1 = 1000 → (layF (dM μ) b B0).1 = ((p :: rest).foldl (oneB (dM μ) [] (fun _ => 0) 0) B).1 ∧ (¬ ((p :: rest).foldl (oneB (dM μ) [] (fun _ => 0) 0) B).1 = 1000 → layF (dM μ) b B0 = (p :: rest).foldl (oneB (dM μ) [] (fun _ => 0) 0) B)) → K 47 [some (.ref 0), some (.int (nI b)), some (.int (nI (bitL b).length)), some (.int l3), some (.int (bestI B)), some (.int 1), none] [] ν := by
    intro rest
    induction rest with
    | nil =>
      intro p B ν l3 hgq hch hrow hf hf0 hrep hB hfold
      refine body p B ν l3 (hgq p List.mem_cons_self) hrow hf hf0 hrep hB (fun ν' k1 k2 k3 k4 k5 r m hq => ?_)
      obtain ⟨g1, g2, -⟩ := hq (fun x => p.getD x 0) _ rfl k5
      have hend : cuI (fun x => p.getD x 0) ((bitL b).length - 1) = 0 := by
        have : cuEnd (bitL b).length p = true := hch
        unfold cuEnd at this
        exact eq_of_beq this
      obtain ⟨rfl, h13⟩ := g2 hend
      refine fin _ m l3 (by rcases k4 with q | q <;> omega) hfold (fun a a0 a1 a2 a3 a4 => (g1 a a1).trans (k1 a a0 a1 a2 a3 a4)) (fun j j1 j2 => by rw [g1 0 (by decide)]; exact k2 j j1 j2) ?_
      unfold repM at k3 ⊢
      rw [g1 0 (by decide), g1 15 (by decide), g1 16 (by decide)]
      exact k3
    | cons q rest ih =>
      intro p B ν l3 hgq hch hrow hf hf0 hrep hB hfold
      refine body p B ν l3 (hgq p List.mem_cons_self) hrow hf hf0 hrep hB (fun ν' k1 k2 k3 k4 k5 r m hq => ?_)
      obtain ⟨g1, -, g3⟩ := hq (fun x => p.getD x 0) _ rfl k5
      rw [chainB, Bool.and_eq_true] at hch
      obtain ⟨hc1, hc2⟩ := hch
      unfold cuOK at hc1
      dsimp only at hc1
      rw [Bool.and_eq_true] at hc1
      have hpos := of_decide_eq_true hc1.1
      have hall := List.all_eq_true.mp hc1.2
      obtain ⟨rfl, h13⟩ := g3 (by omega)
      refine ih q _ m l3 (fun q' hq' => hgq q' (List.mem_cons_of_mem _ hq')) hc2 (fun i hi => ?_) (fun a a0 a1 a2 a3 a4 => (g1 a a1).trans (k1 a a0 a1 a2 a3 a4)) (fun j j1 j2 => by rw [g1 0 (by decide)]; exact k2 j j1 j2) ?_ k4 hfold
      · rw [h13 i hi]
        exact congrArg nI (eq_of_beq (hall i (List.mem_range.mpr hi)))
      · unfold repM at k3 ⊢
        rw [g1 0 (by decide), g1 15 (by decide), g1 16 (by decide)]
        exact k3
  have l24 : ∀ (d e : Nat) (ν : wM), e + d = C → (∀ a, a ≠ 13 → ν a = μ a) → (∀ i, i < ((List.range e).filter (fun e => b.testBit e)).length → ν 13 i = nI (((List.range e).filter (fun e => b.testBit e)).getD i 0)) → K 24 [some (.ref 0), some (.int (nI b)), some (.int (nI (bitL b).length)), some (.int (nI ((List.range e).filter (fun e => b.testBit e)).length)), some (.int (nI e)), none, none] [] ν := by
    intro d
    induction d with
    | zero =>
      intro e ν he hf hrow
      have heC : e = C := by omega
      subst heC
      refine hK uX8_lay 25 _ _ _ _ (vcX8_lay_24 K _ (nI b) (nI (bitL b).length) (nI ((List.range e).filter (fun e => b.testBit e)).length) (nI e) ν ?_)
      rw [hf 0 (by decide), hCn]
      refine ⟨fun _ => ?_, fun z => absurd (nI_le (Nat.le_refl _) (by omega)) z⟩
      rw [bitL_c e hC b hb256 hbC] at hrow ⊢
      unfold chainA at hchain
      have hP : layF (dM μ) b = fun B0 => (permsL (bitL b).length (bitL b)).foldl (oneB (dM μ) [] (fun _ => 0) 0) B0 := rfl
      generalize hPd : permsL (bitL b).length (bitL b) = P at *
      cases P with
      | nil => cases hchain
      | cons p rest =>
        rw [Bool.and_eq_true] at hchain
        have hpS := of_decide_eq_true hchain.1
        refine l47 rest p (1000, [], fun _ => 0) ν _ hgood hchain.2 (fun i hi => by rw [hpS]; exact hrow i hi) (fun a _ a1 _ _ _ => hf a a1) (fun j _ _ => by rw [hf 0 (by decide)]) ⟨fun _ => ⟨hf 15 (by decide), hf 16 (by decide), by rw [hf 0 (by decide)], by rw [hf 0 (by decide)]⟩, fun z => absurd rfl z⟩ (Or.inl rfl) (fun B0 hB0 => ?_)
        rw [hP]
        dsimp only
        rcases fold_2 (D := dM μ) (pre := []) (bg := fun _ => 0) (en := 0) (p :: rest) B0 (1000, [], fun _ => 0) hB0 with q | ⟨q1, q2⟩
        · rw [q]; exact ⟨rfl, fun _ => rfl⟩
        · rw [q1, q2]; exact ⟨hB0, fun z => absurd rfl z⟩
    | succ d ih =>
      intro e ν he hf hrow
      refine hK uX8_lay 25 _ _ _ _ (vcX8_lay_24 K _ (nI b) (nI (bitL b).length) (nI ((List.range e).filter (fun e => b.testBit e)).length) (nI e) ν ?_)
      rw [hf 0 (by decide), hCn, nI_1, nI_1]
      have hb1 := bits_1a b hb256 e (by omega)
      have hle : ((List.range (e + 1)).filter (fun e => b.testBit e)).length ≤ (bitL b).length := by
        rw [← bitL_c C hC b hb256 hbC]
        exact List.Sublist.length_le (List.Sublist.filter _ (List.range_sublist.mpr (by omega)))
      rw [List.range_succ, List.filter_append] at hle
      refine ⟨fun z => absurd z (nI_ge (by omega) (by omega)), fun _ => ⟨fun c5 => ?_, fun c5 => ?_⟩⟩
      · have c5 := hb1.mp c5
        rw [List.filter_cons_of_pos c5, List.filter_nil, List.length_append, List.length_singleton] at hle
        rw [nI_clamp (show ((List.range e).filter (fun e => b.testBit e)).length < 2 ^ 31 by omega)]
        refine ⟨vp_in_nI (by omega) (by omega), ?_⟩
        have z := ih (e + 1) (w_up ν 13 ((List.range e).filter (fun e => b.testBit e)).length (nI e)) (by omega) (fun a ha => by rw [w_up_o ha]; exact hf a ha) (fun i hi => by
          rw [List.range_succ, List.filter_append, List.filter_cons_of_pos c5, List.filter_nil] at hi ⊢
          rw [List.length_append, List.length_singleton] at hi
          rw [w_up_s]
          by_cases q : i = ((List.range e).filter (fun e => b.testBit e)).length
          · rw [q, upd_in, List.getD_eq_getElem?_getD, List.getElem?_append_right (Nat.le_refl _), Nat.sub_self]
            rfl
          · rw [upd_out q, hrow i (by omega), List.getD_eq_getElem?_getD, List.getD_eq_getElem?_getD, List.getElem?_append_left (by omega)])
        rw [List.range_succ, List.filter_append, List.filter_cons_of_pos c5, List.filter_nil, List.length_append, List.length_singleton] at z
        exact z
      · have c5 : ¬ b.testBit e = true := fun q => c5 (hb1.mpr q)
        have hflt : (List.range (e + 1)).filter (fun e => b.testBit e) = (List.range e).filter (fun e => b.testBit e) := by
          rw [List.range_succ, List.filter_append, List.filter_cons_of_neg c5, List.filter_nil, List.append_nil]
        have z := ih (e + 1) ν (by omega) hf (by rw [hflt]; exact hrow)
        rw [hflt] at z
        exact z
  exact l24 C 0 μ (by omega) (fun _ _ => rfl) (fun i hi => absurd hi (Nat.not_lt_zero _))
set_option maxRecDepth 100000 in
theorem zX8_lay (l : Launch) : ∀ (idx : Nat) (S : wS), gX8_lay idx = some S → w_Call l 8 idx S 4 shM rfM 32 := by
  intro idx S hS
  unfold gX8_lay at hS
  split at hS
  · cases hS
    exact w_callS (mX8_in l) eX8_in.1 (by decide +kernel) eX8_in.2.1 eX8_in.2.2 (by decide +kernel) (by decide) (by decide)
  · cases hS
    exact w_callS (mX8_bits l) eX8_bits.1 (by decide +kernel) eX8_bits.2.1 eX8_bits.2.2 (by decide +kernel) (by decide) (by decide)
  · cases hS
    exact w_callV (ci := 8) (mX8_layRow l) (by decide) rX8_layRow eX8_layRow.1 (by decide +kernel) eX8_layRow.2.1 eX8_layRow.2.2.1 eX8_layRow.2.2.2 (by decide +kernel) (by decide) (by decide)
  · cases hS
    exact w_callV (ci := 8) (mX8_keep l) (by decide) rX8_keep eX8_keep.1 (by decide +kernel) eX8_keep.2.1 eX8_keep.2.2.1 eX8_keep.2.2.2 (by decide +kernel) (by decide) (by decide)
  · cases hS
    exact w_callV (ci := 8) (mX8_countsUp l) (by decide) rX8_countsUp eX8_countsUp.1 (by decide +kernel) eX8_countsUp.2.1 eX8_countsUp.2.2.1 eX8_countsUp.2.2.2 (by decide +kernel) (by decide) (by decide)
  · cases hS
theorem mX8_lay (l : Launch) : w_Met l yX8_lay cX8_lay 7 (some .int) 4 shM rfM 32 sX8_lay.2.2.2.1 sX8_lay.2.2.2.2 :=
  w_meth (o := 8) (Γ := gX8_lay) (tb := tX8_lay) (by decide +kernel) rfl kX8_lay rfl (zX8_lay l) (fun as μ h => by obtain ⟨a, rfl, h⟩ := h; exact Nat.le_of_ble_eq_true rfl) (fun as μ h K hK => by obtain ⟨a, rfl, h⟩ := h; exact vX8_lay a μ h K hK)
set_option maxRecDepth 100000 in
theorem eX8_lay : Cond.code yX8_lay cX8_lay 7 (some .int) ∈ w_tbl ∧ Cond.instanceMethod yX8_lay ∈ w_tbl ∧ Cond.selects (w_C 8) yX8_lay yX8_lay ∈ w_tbl ∧ Cond.initialized yX8_lay.cls ∈ w_tbl := ⟨by decide +kernel, by decide +kernel, by decide +kernel, by decide +kernel⟩
theorem rX8_lay : ∀ as μ, sX8_lay.2.2.2.1 as μ → ∃ q as', as = .ref q :: as' ∧ q < 32 ∧ shM q = .inl 8 := by
  intro as μ h
  obtain ⟨a, rfl, h⟩ := h
  exact ⟨_, _, rfl, by decide, rfl⟩
