/-! laying a day: the search as a pure function -/
abbrev wD : Type := (Nat → Nat) × (Nat → Nat → Bool) × (Nat → Nat → Bool) × (Nat → Nat → Bool) × Nat × Nat
def wD.sp (D : wD) : Nat → Nat := D.1
def wD.cal (D : wD) : Nat → Nat → Bool := D.2.1
def wD.men (D : wD) : Nat → Nat → Bool := D.2.2.1
def wD.prt (D : wD) : Nat → Nat → Bool := D.2.2.2.1
def wD.rest (D : wD) : Nat := D.2.2.2.2.1
def wD.len (D : wD) : Nat := D.2.2.2.2.2
def goN (D : wD) (e s o fr : Nat) : Bool :=
  !(D.prt e o && (decide (s < fr + D.sp o) && decide (fr < s + D.sp e))) && (!(D.men e o && (decide (s < fr + D.sp o + D.rest) && decide (fr < s + D.sp e + D.rest))) && (!(D.cal e o && decide (fr < s + D.sp e)) && !(D.cal o e && decide (s < fr + D.sp o))))
def pbN (D : wD) (o e s fr : Nat) : Nat :=
  if D.cal e o = true ∧ fr < s + D.sp e then 1000 else if D.cal o e = true ∧ s < fr + D.sp o then fr + D.sp o else if D.men e o = true ∧ s < fr + D.sp o + D.rest ∧ fr < s + D.sp e + D.rest then fr + D.sp o + D.rest else if D.prt e o = true ∧ s < fr + D.sp o ∧ fr < s + D.sp e then fr + D.sp o else s
def l_upd (b : Nat → Nat) (e v : Nat) : Nat → Nat := fun x => if x = e then v else b x
def g_all (D : wD) (e : Nat) (pre : List Nat) (b : Nat → Nat) (s : Nat) : Bool := pre.all (fun o => goN D e s o (b o))
def w_ft (g : Nat → Bool) : Nat → Nat → Nat
  | 0, _ => 1000
  | k + 1, s => if g s = true then s else w_ft g k (s + 1)
def ffN (D : wD) (e : Nat) (pre : List Nat) (b : Nat → Nat) : Nat := w_ft (g_all D e pre b) D.len 0
def evalL (D : wD) : List Nat → List Nat → (Nat → Nat) → Nat → Option (Nat × (Nat → Nat))
  | [], _, b, en => some (en, b)
  | e :: r, pre, b, en => if max en (ffN D e pre b + D.sp e) ≤ D.len then evalL D r (pre ++ [e]) (l_upd b e (ffN D e pre b)) (max en (ffN D e pre b + D.sp e)) else none
abbrev wBst : Type := Nat × List Nat × (Nat → Nat)
def oneB (D : wD) (pre : List Nat) (b : Nat → Nat) (en : Nat) (B : wBst) (q : List Nat) : wBst := match evalL D q pre b en with
  | some r => if r.1 < B.1 then (r.1, pre ++ q, r.2) else B
  | none => B
def permsL : Nat → List Nat → List (List Nat)
  | 0, _ => [[]]
  | n + 1, rem => rem.flatMap (fun e => (permsL n (rem.erase e)).map (fun q => e :: q))
def dfsB (D : wD) : Nat → List Nat → List Nat → (Nat → Nat) → Nat → wBst → wBst
  | 0, _, pre, b, en, _ => (en, pre, b)
  | n + 1, rem, pre, b, en, B => rem.foldl (fun B e => if max en (ffN D e pre b + D.sp e) ≤ D.len ∧ max en (ffN D e pre b + D.sp e) < B.1 then dfsB D n (rem.erase e) (pre ++ [e]) (l_upd b e (ffN D e pre b)) (max en (ffN D e pre b + D.sp e)) B else B) B
theorem evalL_le (D : wD) : ∀ (q pre : List Nat) (b : Nat → Nat) (en : Nat) (r : Nat × (Nat → Nat)), evalL D q pre b en = some r → en ≤ r.1 := by
  intro q
  induction q with
  | nil => intro pre b en r h; rw [evalL] at h; cases h; exact Nat.le_refl _
  | cons e q ih =>
    intro pre b en r h
    rw [evalL] at h
    split at h
    · have := ih _ _ _ _ h; omega
    · cases h
theorem oneB_le (D : wD) (pre : List Nat) (b : Nat → Nat) (en : Nat) (B : wBst) (q : List Nat) : (oneB D pre b en B q).1 ≤ B.1 := by
  unfold oneB
  split
  · split
    · dsimp only; omega
    · exact Nat.le_refl _
  · exact Nat.le_refl _
theorem oneB_no {D : wD} {pre : List Nat} {b : Nat → Nat} {en : Nat} {B : wBst} (h : B.1 ≤ en) (q : List Nat) : oneB D pre b en B q = B := by
  unfold oneB
  split
  · next r hr =>
    have := evalL_le D _ _ _ _ _ hr
    rw [if_neg (by omega)]
  · rfl
theorem foldl_no {D : wD} {pre : List Nat} {b : Nat → Nat} {en : Nat} {B : wBst} (h : B.1 ≤ en) : ∀ l : List (List Nat), l.foldl (oneB D pre b en) B = B := by
  intro l
  induction l with
  | nil => rfl
  | cons q l ih => rw [List.foldl_cons, oneB_no h, ih]
theorem oneB_cons {D : wD} {pre : List Nat} {b : Nat → Nat} {en e : Nat} (h : max en (ffN D e pre b + D.sp e) ≤ D.len) (B : wBst) (q : List Nat) : oneB D pre b en B (e :: q) = oneB D (pre ++ [e]) (l_upd b e (ffN D e pre b)) (max en (ffN D e pre b + D.sp e)) B q := by
  unfold oneB
  rw [evalL, if_pos h]
  split
  · rw [List.append_assoc]; rfl
  · rfl
theorem oneB_none {D : wD} {pre : List Nat} {b : Nat → Nat} {en e : Nat} (h : ¬ max en (ffN D e pre b + D.sp e) ≤ D.len) (B : wBst) (q : List Nat) : oneB D pre b en B (e :: q) = B := by
  unfold oneB
  rw [evalL, if_neg h]
theorem foldl_id {α β : Type} {f : β → α → β} {B : β} : ∀ l : List α, (∀ x, x ∈ l → f B x = B) → l.foldl f B = B := by
  intro l
  induction l with
  | nil => intro _; rfl
  | cons x l ih =>
    intro h
    rw [List.foldl_cons, h x List.mem_cons_self]
    exact ih (fun y hy => h y (List.mem_cons_of_mem _ hy))
theorem dfs_eq (D : wD) : ∀ (n : Nat) (rem pre : List Nat) (b : Nat → Nat) (en : Nat) (B : wBst), en < B.1 → dfsB D n rem pre b en B = (permsL n rem).foldl (oneB D pre b en) B := by
  intro n
  induction n with
  | zero =>
    intro rem pre b en B h
    rw [dfsB, permsL]
    show _ = oneB D pre b en B []
    unfold oneB
    rw [evalL]
    dsimp only
    rw [if_pos h, List.append_nil]
  | succ n ih =>
    intro rem pre b en B _
    rw [dfsB, permsL]
    have key : ∀ (l : List Nat) (B : wBst), l.foldl (fun B e => if max en (ffN D e pre b + D.sp e) ≤ D.len ∧ max en (ffN D e pre b + D.sp e) < B.1 then dfsB D n (rem.erase e) (pre ++ [e]) (l_upd b e (ffN D e pre b)) (max en (ffN D e pre b + D.sp e)) B else B) B = (l.flatMap (fun e => (permsL n (rem.erase e)).map (fun q => e :: q))).foldl (oneB D pre b en) B := by
      intro l
      induction l with
      | nil => intro B; rfl
      | cons e l ihl =>
        intro B
        rw [List.foldl_cons, List.flatMap_cons, List.foldl_append, ← ihl, List.foldl_map]
        congr 1
        by_cases c1 : max en (ffN D e pre b + D.sp e) ≤ D.len
        · have e1 : (fun (x : wBst) (y : List Nat) => oneB D pre b en x (e :: y)) = oneB D (pre ++ [e]) (l_upd b e (ffN D e pre b)) (max en (ffN D e pre b + D.sp e)) := by
            funext x y
            exact oneB_cons c1 x y
          rw [e1]
          by_cases c2 : max en (ffN D e pre b + D.sp e) < B.1
          · rw [if_pos ⟨c1, c2⟩, ih _ _ _ _ _ c2]
          · rw [if_neg (fun z => c2 z.2), foldl_no (by omega)]
        · rw [if_neg (fun z => c1 z.1), foldl_id _ (fun y _ => oneB_none c1 B y)]
    exact key rem B
/-! pushes find the least fit -/
theorem goN_pb {D : wD} {o e s fr : Nat} (hs : s ≤ 1000) (hl : fr + D.sp o + D.rest ≤ 1000) : s ≤ pbN D o e s fr ∧ pbN D o e s fr ≤ 1000 ∧ (pbN D o e s fr = s ↔ (goN D e s o fr = true ∨ (s = 1000 ∧ D.cal e o = true ∧ fr < s + D.sp e))) ∧ ∀ t, s ≤ t → t < pbN D o e s fr → goN D e t o fr = false := by
  unfold pbN goN
  by_cases c1 : D.cal e o = true ∧ fr < s + D.sp e
  · rw [if_pos c1]
    refine ⟨hs, Nat.le_refl _, ?_, fun t h1 h2 => ?_⟩
    · constructor
      · intro z; exact Or.inr ⟨z.symm, c1.1, c1.2⟩
      · rintro (z | z)
        · rw [c1.1, decide_eq_true c1.2] at z
          simp at z
        · exact z.1.symm
    · rw [c1.1, decide_eq_true (show fr < t + D.sp e by omega)]
      simp
  · rw [if_neg c1]
    have n1 : (D.cal e o && decide (fr < s + D.sp e)) = false := by
      cases q : D.cal e o with
      | false => rfl
      | true => rw [Bool.true_and]; exact decide_eq_false (fun z => c1 ⟨q, z⟩)
    by_cases c2 : D.cal o e = true ∧ s < fr + D.sp o
    · rw [if_pos c2]
      refine ⟨by omega, by omega, ?_, fun t h1 h2 => ?_⟩
      · constructor
        · intro z; omega
        · rintro (z | z)
          · rw [c2.1, decide_eq_true c2.2] at z
            simp at z
          · exact absurd ⟨z.2.1, z.2.2⟩ c1
      · rw [c2.1, decide_eq_true (show t < fr + D.sp o by omega)]
        simp
    · rw [if_neg c2]
      have n2 : (D.cal o e && decide (s < fr + D.sp o)) = false := by
        cases q : D.cal o e with
        | false => rfl
        | true => rw [Bool.true_and]; exact decide_eq_false (fun z => c2 ⟨q, z⟩)
      by_cases c3 : D.men e o = true ∧ s < fr + D.sp o + D.rest ∧ fr < s + D.sp e + D.rest
      · rw [if_pos c3]
        refine ⟨by omega, by omega, ?_, fun t h1 h2 => ?_⟩
        · constructor
          · intro z; omega
          · rintro (z | z)
            · rw [c3.1, decide_eq_true c3.2.1, decide_eq_true c3.2.2] at z
              simp at z
            · exact absurd ⟨z.2.1, z.2.2⟩ c1
        · rw [c3.1, decide_eq_true (show t < fr + D.sp o + D.rest by omega), decide_eq_true (show fr < t + D.sp e + D.rest by omega)]
          simp
      · rw [if_neg c3]
        have n3 : (D.men e o && (decide (s < fr + D.sp o + D.rest) && decide (fr < s + D.sp e + D.rest))) = false := by
          cases q : D.men e o with
          | false => rfl
          | true =>
            rw [Bool.true_and]
            by_cases q2 : s < fr + D.sp o + D.rest
            · rw [decide_eq_false (fun z => c3 ⟨q, q2, z⟩), Bool.and_false]
            · rw [decide_eq_false q2, Bool.false_and]
        by_cases c4 : D.prt e o = true ∧ s < fr + D.sp o ∧ fr < s + D.sp e
        · rw [if_pos c4]
          refine ⟨by omega, by omega, ?_, fun t h1 h2 => ?_⟩
          · constructor
            · intro z; omega
            · rintro (z | z)
              · rw [c4.1, decide_eq_true c4.2.1, decide_eq_true c4.2.2] at z
                simp at z
              · exact absurd ⟨z.2.1, z.2.2⟩ c1
          · rw [c4.1, decide_eq_true (show t < fr + D.sp o by omega), decide_eq_true (show fr < t + D.sp e by omega)]
            simp
        · rw [if_neg c4]
          have n4 : (D.prt e o && (decide (s < fr + D.sp o) && decide (fr < s + D.sp e))) = false := by
            cases q : D.prt e o with
            | false => rfl
            | true =>
              rw [Bool.true_and]
              by_cases q2 : s < fr + D.sp o
              · rw [decide_eq_false (fun z => c4 ⟨q, q2, z⟩), Bool.and_false]
              · rw [decide_eq_false q2, Bool.false_and]
          refine ⟨Nat.le_refl _, hs, ⟨fun _ => Or.inl ?_, fun _ => rfl⟩, fun t h1 h2 => by omega⟩
          rw [n1, n2, n3, n4]
          rfl
def pbL (D : wD) (e : Nat) (b : Nat → Nat) (l : List Nat) (s : Nat) : Nat := l.foldl (fun s o => pbN D o e s (b o)) s
theorem pbL_ok {D : wD} {e : Nat} {b : Nat → Nat} : ∀ (l : List Nat) (s : Nat), (∀ o, o ∈ l → b o + D.sp o + D.rest ≤ 1000) → s ≤ 1000 → s ≤ pbL D e b l s ∧ pbL D e b l s ≤ 1000 ∧ (s < 1000 → pbL D e b l s = s → g_all D e l b s = true) ∧ ∀ t, s ≤ t → t < pbL D e b l s → g_all D e l b t = false := by
  intro l
  induction l with
  | nil => intro s _ hs; exact ⟨Nat.le_refl _, hs, fun _ _ => rfl, fun t h1 h2 => by unfold pbL at h2; rw [List.foldl_nil] at h2; omega⟩
  | cons o l ih =>
    intro s hl hs
    have ho := hl o List.mem_cons_self
    obtain ⟨a1, a2, a3, a4⟩ := goN_pb (D := D) (o := o) (e := e) (fr := b o) hs ho
    obtain ⟨b1, b2, b3, b4⟩ := ih (pbN D o e s (b o)) (fun o' h => hl o' (List.mem_cons_of_mem _ h)) a2
    have e1 : pbL D e b (o :: l) s = pbL D e b l (pbN D o e s (b o)) := rfl
    rw [e1]
    have e2 : ∀ t, g_all D e (o :: l) b t = (goN D e t o (b o) && g_all D e l b t) := fun t => rfl
    refine ⟨by omega, b2, fun h1 h2 => ?_, fun t h1 h2 => ?_⟩
    · have h3 : pbN D o e s (b o) = s := by omega
      rw [e2]
      rcases a3.mp h3 with q | q
      · rw [q, Bool.true_and]
        rw [h3] at b3 h2
        exact b3 h1 h2
      · omega
    · rw [e2]
      rcases Nat.lt_or_ge t (pbN D o e s (b o)) with q | q
      · rw [a4 t h1 q]; rfl
      · rw [b4 t q h2, Bool.and_false]
theorem w_ft_found {g : Nat → Bool} {v : Nat} (hv : g v = true) : ∀ (k s : Nat), s ≤ v → v < s + k → (∀ t, s ≤ t → t < v → g t = false) → w_ft g k s = v := by
  intro k
  induction k with
  | zero => intro s h1 h2; omega
  | succ k ih =>
    intro s h1 h2 h3
    rw [w_ft]
    by_cases e : s = v
    · rw [e, if_pos hv]
    · rw [if_neg (by rw [h3 s (Nat.le_refl _) (by omega)]; decide)]
      exact ih (s + 1) (by omega) (by omega) (fun t h4 h5 => h3 t (by omega) h5)
theorem w_ft_none {g : Nat → Bool} : ∀ (k s : Nat), (∀ t, s ≤ t → t < s + k → g t = false) → w_ft g k s = 1000 := by
  intro k
  induction k with
  | zero => intro s _; rfl
  | succ k ih =>
    intro s h
    rw [w_ft, if_neg (by rw [h s (Nat.le_refl _) (by omega)]; decide)]
    exact ih (s + 1) (fun t h4 h5 => h t (by omega) (by omega))
theorem w_ft_cases (g : Nat → Bool) : ∀ (k s : Nat), (w_ft g k s = 1000 ∧ ∀ t, s ≤ t → t < s + k → g t = false) ∨ (s ≤ w_ft g k s ∧ w_ft g k s < s + k ∧ g (w_ft g k s) = true ∧ ∀ t, s ≤ t → t < w_ft g k s → g t = false) := by
  intro k
  induction k with
  | zero => intro s; exact Or.inl ⟨rfl, fun t h1 h2 => by omega⟩
  | succ k ih =>
    intro s
    rw [w_ft]
    by_cases c : g s = true
    · rw [if_pos c]
      exact Or.inr ⟨Nat.le_refl _, by omega, c, fun t h1 h2 => by omega⟩
    · rw [if_neg c]
      have c' : g s = false := by cases q : g s with
        | false => rfl
        | true => exact absurd q c
      rcases ih (s + 1) with ⟨h1, h2⟩ | ⟨h1, h2, h3, h4⟩
      · refine Or.inl ⟨h1, fun t h5 h6 => ?_⟩
        by_cases e : t = s
        · rw [e]; exact c'
        · exact h2 t (by omega) (by omega)
      · refine Or.inr ⟨by omega, by omega, h3, fun t h5 h6 => ?_⟩
        by_cases e : t = s
        · rw [e]; exact c'
        · exact h4 t (by omega) h6
/-! the next order by numbers, and that it goes through them all -/
def cuI (f : Nat → Nat) : Nat → Nat
  | 0 => 0
  | k + 1 => if f (k + 1) < f k then cuI f k else k + 1
def cuJ (f : Nat → Nat) (v : Nat) : Nat → Nat
  | 0 => 0
  | k + 1 => if f k < v then cuJ f v k else k
def cuR (f : Nat → Nat) (n i j : Nat) : Nat → Nat := fun x => (fun f1 : Nat → Nat => if i < x ∧ x < n then f1 (i + n - x) else f1 x) (fun y => if y = j then f i else if y = i then f j else f y)
def bitL (b : Nat) : List Nat := (List.range 8).filter (fun e => b.testBit e)
def cuOK (n : Nat) (p q : List Nat) : Bool :=
  let f := fun x => p.getD x 0
  let i := cuI f (n - 1)
  decide (0 < i) && (List.range n).all (fun x => cuR f n (i - 1) (cuJ f (f (i - 1)) n) x == q.getD x 0)
def cuEnd (n : Nat) (p : List Nat) : Bool := cuI (fun x => p.getD x 0) (n - 1) == 0
def chainB (n : Nat) : List Nat → List (List Nat) → Bool
  | p, [] => cuEnd n p
  | p, q :: l => cuOK n p q && chainB n q l
def chainA (b : Nat) : Bool := match permsL (bitL b).length (bitL b) with
  | [] => false
  | p :: l => decide (p = bitL b) && chainB (bitL b).length p l
