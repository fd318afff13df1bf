/-! the two memories at the start -/
theorem r0_z (n : Nat) (h0 : 0 < n) : vp_in (0 : Int32) n := by
  intro h
  rcases h with h | h
  · exact absurd h (by decide)
  · have e : (0 : Int32).toNatClampNeg = 0 := by decide
    rw [e] at h
    omega
theorem r0_n (n : Nat) (h0 : 3 < n) : vp_in (3 : Int32) n := by
  intro h
  rcases h with h | h
  · exact absurd h (by decide)
  · have e : (3 : Int32).toNatClampNeg = 3 := by decide
    rw [e] at h
    omega
theorem r0_A1 (e : Nat) (x : Int32) (hx : x = nI e) : rA1 0 e (mEv x) 0 0 0 0 0 0 0 0 0 := by
  refine ⟨⟨hx, rfl, rfl, rfl, rfl, rfl, rfl, rfl⟩, ⟨r0_z 3 (by decide), r0_z 13 (by decide), r0_z 1024 (by decide), Or.inl rfl, ?_, ?_⟩, fun h => absurd h (Nat.not_lt_zero _), fun _ => ⟨rfl, rfl⟩⟩
  · show (100 : Int) ≤ (220 : Int32).toInt
    decide
  · show (220 : Int32).toInt ≤ (2000 : Int)
    decide
theorem r0_A : rA muX muM := by
  refine ⟨r0_z 9 (by decide), rfl, fun e he => ?_⟩
  match e, he with
  | 0, _ => exact r0_A1 0 0 rfl
  | 1, _ => exact r0_A1 1 1 rfl
  | 2, _ => exact r0_A1 2 2 rfl
  | 3, _ => exact r0_A1 3 3 rfl
  | 4, _ => exact r0_A1 4 4 rfl
  | 5, _ => exact r0_A1 5 5 rfl
  | 6, _ => exact r0_A1 6 6 rfl
  | 7, _ => exact r0_A1 7 7 rfl
theorem r0_bt (e : Nat) (he : e < 8) : w_bt 0 (nI e) = false := by
  match e, he with
  | 0, _ => decide
  | 1, _ => decide
  | 2, _ => decide
  | 3, _ => decide
  | 4, _ => decide
  | 5, _ => decide
  | 6, _ => decide
  | 7, _ => decide
theorem r0_c0 : (0 : Int32).toNatClampNeg = 0 := by decide
theorem r0_C : rC muX muM := by
  refine ⟨rfl, r0_z 9 (by decide), fun e he o ho => ⟨?_, r0_z 256 (by decide)⟩⟩
  show w_tells (muM 11) (muM 12) (nI e) (nI o) (0 : Int32).toNatClampNeg = w_bt 0 (nI e)
  rw [r0_bt e he, r0_c0, w_tells]
theorem r0_D : rD muX muM := by
  refine ⟨⟨rfl, r0_z 7 (by decide), Iff.rfl⟩, fun i hi => ?_, fun e he => ?_, fun e he => ?_⟩
  · have hi : i < (0 : Int32).toNatClampNeg := hi
    rw [r0_c0] at hi
    exact absurd hi (Nat.not_lt_zero _)
  · exact (if_pos rfl).symm
  · constructor
    · intro h
      have h : w_bt 0 (nI e) = true := h
      rw [r0_bt e he] at h
      cases h
    · rintro ⟨i, hi, -⟩
      have hi : i < (0 : Int32).toNatClampNeg := hi
      rw [r0_c0] at hi
      exact absurd hi (Nat.not_lt_zero _)
theorem r0_E : rE muX muM := by
  refine ⟨rfl, r0_z 161 (by decide), fun i hi => ?_⟩
  have hi : i < (0 : Int32).toNatClampNeg := hi
  rw [r0_c0] at hi
  exact absurd hi (Nat.not_lt_zero _)
theorem r0_F : rF muX muM := by
  intro t ht
  match t, ht with
  | 0, _ => exact ⟨rfl, r0_z 61 (by decide), Or.inl rfl, fun _ => rfl, fun h => absurd rfl h, fun _ _ => rfl⟩
  | 1, _ => exact ⟨rfl, r0_z 61 (by decide), Or.inl rfl, fun _ => rfl, fun h => absurd rfl h, fun _ _ => rfl⟩
  | 2, _ => exact ⟨rfl, r0_z 61 (by decide), Or.inl rfl, fun _ => rfl, fun h => absurd rfl h, fun _ _ => rfl⟩
  | 3, _ => exact ⟨rfl, r0_z 61 (by decide), Or.inl rfl, fun _ => rfl, fun h => absurd rfl h, fun _ _ => rfl⟩
theorem r0_G : rG muX muM := by
  refine ⟨rfl, r0_n 7 (by decide), fun i hi => ?_⟩
  match i, hi with
  | 0, _ => rfl
  | 1, _ => rfl
  | 2, _ => rfl
  | 3, _ => rfl
  | 4, _ => rfl
  | 5, _ => rfl
theorem r0_H : rH muX muM := by
  refine ⟨rfl, r0_z 41 (by decide), fun i hi => ?_⟩
  have hi : i < (0 : Int32).toNatClampNeg := hi
  rw [r0_c0] at hi
  exact absurd hi (Nat.not_lt_zero _)
theorem r0_S : rS muX muM := by
  refine ⟨rfl, rfl, ?_, ?_⟩
  · exact vp_in_nI (n := 60) (N := 61) (by decide) (by decide)
  · exact vp_in_nI (n := 1) (N := 7) (by decide) (by decide)
theorem r0_B : rB muX muM := by
  intro x hx
  refine ⟨rfl, ?_, ?_⟩
  · show (-50 : Int) ≤ (0 : Int32).toInt
    decide
  · show (0 : Int32).toInt ≤ (50 : Int)
    decide
theorem r0_rel : rel muX muM := ⟨⟨fun _ _ => rfl, fun _ _ => rfl, fun _ _ => rfl⟩, r0_A, r0_S, r0_B, r0_C, r0_D, r0_E, r0_F, r0_G, r0_H⟩
