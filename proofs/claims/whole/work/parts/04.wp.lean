/-! pure states: a reference is a place of the world; the memory is place → slot → int; references among places don't change -/
abbrev wL : Type := List (Option Value)
abbrev wM : Type := Nat → Nat → Int32
abbrev wSh : Type := Nat → Nat ⊕ (Nat × Nat)
abbrev wK : Type := Nat → wL → List Value → wM → Prop
/-- a call's words: static?, void?, how many values, what must hold ahead, what holds behind (a void method's answer is 0) -/
abbrev wS : Type := Bool × Bool × Nat × (List Value → wM → Prop) × (List Value → wM → Int32 → wM → Prop)
abbrev wT : Type := List (Instr × Nat × List Nat)
def w_tr (ad : Nat → Nat) : Value → Value
  | .ref q => .ref (ad q)
  | v => v
def w_up (μ : wM) (q j : Nat) (x : Int32) : wM := fun a b => if a = q ∧ b = j then x else μ a b
theorem w_up_o {μ : wM} {q j : Nat} {x : Int32} {a : Nat} (h : a ≠ q) : w_up μ q j x a = μ a := by
  funext b
  simp [w_up, h]
theorem w_up_s {μ : wM} {q j : Nat} {x : Int32} : w_up μ q j x q = upd (μ q) j x := by
  funext b
  simp [w_up, upd]
def w_fv (rf : Nat → Nat → Nat) (ad : Nat → Nat) (μ : wM) (ci q j : Nat) : Value := match w_fk ci j with
  | true => .ref (ad (rf q j))
  | false => .int (μ q j)
def w_e (kc : Nat → ClassId) (sh : wSh) (rf : Nat → Nat → Nat) (ad : Nat → Nat) (μ : wM) (q : Nat) : va_E := match sh q with
  | .inl ci => .inr (ci, (List.range (w_nf ci)).map (w_fv rf ad μ ci q))
  | .inr (0, len) => .inl (kc 0, len, .inl (μ q))
  | .inr (1, len) => .inl (kc 1, len, .inl (μ q))
  | .inr (k + 2, len) => .inl (kc (k + 2), len, .inr (.inr (.inr (.inr (fun j => some (ad (rf q j)))))))
def w_w (kc : Nat → ClassId) (sh : wSh) (rf : Nat → Nat → Nat) (n : Nat) (ad : Nat → Nat) (μ : wM) : va_W := (List.range n).map (fun q => (ad q, w_e kc sh rf ad μ q))
theorem w_get {α : Type} {n : Nat} {f : Nat → α} {q : Nat} (h : q < n) : ((List.range n).map f)[q]? = some (f q) := by simp [h]
theorem w_set {α : Type} {n : Nat} {f g : Nat → α} {q : Nat} {v : α} (hq : q < n) (h1 : g q = v) (h2 : ∀ i, i ≠ q → g i = f i) : ((List.range n).map f).set q v = (List.range n).map g := by
  apply List.ext_getElem?
  intro i
  rw [List.getElem?_set]
  by_cases h : q = i
  · subst h
    simp [hq, h1]
  · rw [if_neg h]
    by_cases hi : i < n
    · rw [w_get hi, w_get hi, h2 i (fun e => h e.symm)]
    · simp [hi]
theorem w_e_o {kc : Nat → ClassId} {sh : wSh} {rf : Nat → Nat → Nat} {ad : Nat → Nat} {μ μ' : wM} {q : Nat} (h : μ' q = μ q) : w_e kc sh rf ad μ' q = w_e kc sh rf ad μ q := by
  unfold w_e w_fv
  rw [h]
def w_A (n : Nat) (ad : Nat → Nat) (sz : Nat) : Nat → Prop := fun q => (∃ k, k < n ∧ ad k = q) ∨ sz ≤ q
theorem w_A_eq {kc : Nat → ClassId} {sh : wSh} {rf : Nat → Nat → Nat} {n : Nat} {ad : Nat → Nat} {μ : wM} {sz : Nat} : va_A (w_w kc sh rf n ad μ) sz = w_A n ad sz := by
  funext q
  apply propext
  constructor
  · rintro (⟨k, e, h⟩ | h)
    · refine Or.inl ⟨k, ?_⟩
      unfold w_w at h
      by_cases hk : k < n
      · rw [w_get hk] at h
        exact ⟨hk, congrArg Prod.fst (Option.some.inj h)⟩
      · simp [hk] at h
    · exact Or.inr h
  · rintro (⟨k, hk, h⟩ | h)
    · exact Or.inl ⟨k, w_e kc sh rf ad μ k, by unfold w_w; rw [w_get hk, h]⟩
    · exact Or.inr h
/-- the places' addresses are apart, and of a kind -/
def w_ap (n : Nat) (ad : Nat → Nat) (A : Nat → Prop) : Prop := (∀ i j, i < n → j < n → ad i = ad j → i = j) ∧ ∀ i, i < n → A (ad i)
theorem w_D {kc : Nat → ClassId} {sh : wSh} {rf : Nat → Nat → Nat} {n : Nat} {ad : Nat → Nat} {A : Nat → Prop} (h : w_ap n ad A) (μ : wM) : va_D A (w_w kc sh rf n ad μ) := by
  have key : ∀ (k : Nat) (q : Nat × va_E), (w_w kc sh rf n ad μ)[k]? = some q → k < n ∧ q.1 = ad k := by
    intro k q hq
    unfold w_w at hq
    by_cases hk : k < n
    · rw [w_get hk] at hq
      exact ⟨hk, (congrArg Prod.fst (Option.some.inj hq)).symm⟩
    · simp [hk] at hq
  refine ⟨fun i j p q h1 h2 e => ?_, fun k q h1 => ?_⟩
  · obtain ⟨a1, a2⟩ := key i p h1
    obtain ⟨b1, b2⟩ := key j q h2
    exact h.1 i j a1 b1 (by rw [← a2, ← b2]; exact e)
  · obtain ⟨a1, a2⟩ := key k q h1
    rw [a2]
    exact h.2 k a1
theorem w_D' {kc : Nat → ClassId} {sh : wSh} {rf : Nat → Nat → Nat} {n : Nat} {ad : Nat → Nat} {A : Nat → Prop} {μ : wM} (h : va_D A (w_w kc sh rf n ad μ)) : w_ap n ad A := by
  refine ⟨fun i j hi hj e => ?_, fun i hi => ?_⟩
  · exact h.1 i j (ad i, w_e kc sh rf ad μ i) (ad j, w_e kc sh rf ad μ j) (by unfold w_w; rw [w_get hi]) (by unfold w_w; rw [w_get hj]) e
  · exact h.2 i (ad i, w_e kc sh rf ad μ i) (by unfold w_w; rw [w_get hi])
/-! locals -/
def w_pics (ad : Nat → Nat) (ls : wL) : List (Nat × Value) := (List.range ls.length).filterMap (fun i => match ls[i]? with
  | some (some v) => some (i, w_tr ad v)
  | _ => none)
theorem w_pics_mem {ad : Nat → Nat} {ls : wL} {i : Nat} {w : Value} : (i, w) ∈ w_pics ad ls ↔ ∃ v, ls[i]? = some (some v) ∧ w = w_tr ad v := by
  unfold w_pics
  rw [List.mem_filterMap]
  constructor
  · rintro ⟨j, hj, h⟩
    split at h
    · next v hv =>
      cases h
      exact ⟨v, hv, rfl⟩
    · cases h
  · rintro ⟨v, hv, rfl⟩
    refine ⟨i, List.mem_range.mpr (List.getElem?_eq_some_iff.mp hv).1, ?_⟩
    rw [hv]
def w_lok (ad : Nat → Nat) (nL : Nat) (ls : wL) (la : Array Slot) : Prop := ls.length = nL ∧ lv_has la nL (w_pics ad ls)
theorem w_lok.at {ad : Nat → Nat} {nL : Nat} {ls : wL} {la : Array Slot} (h : w_lok ad nL ls la) {i : Nat} {v : Value} (hv : ls[i]? = some (some v)) : la[i]? = some (.val (w_tr ad v)) := h.2.2.2 _ (w_pics_mem.mpr ⟨v, hv, rfl⟩)
theorem w_lok.forg {ad : Nat → Nat} {nL : Nat} {ls : wL} {la : Array Slot} (h : w_lok ad nL ls la) (k : Nat) : w_lok ad nL (ls.set k none) la := by
  refine ⟨by rw [List.length_set]; exact h.1, h.2.1, h.2.2.1, fun q hq => ?_⟩
  obtain ⟨i, w⟩ := q
  obtain ⟨u, hu, rfl⟩ := w_pics_mem.mp hq
  rw [List.getElem?_set] at hu
  by_cases e : k = i
  · subst e
    rw [if_pos rfl] at hu
    by_cases hl : k < ls.length
    · rw [if_pos hl] at hu
      cases hu
    · rw [if_neg hl] at hu
      cases hu
  · rw [if_neg e] at hu
    exact h.2.2.2 _ (w_pics_mem.mpr ⟨u, hu, rfl⟩)
/-- the local ahead of k is no long -/
def w_nl (ls : wL) (k : Nat) : Bool := match k with
  | 0 => true
  | j + 1 => match ls[j]? with
    | some (some (.long _)) => false
    | some (some (.double _)) => false
    | _ => true
theorem w_tr_cat (ad : Nat → Nat) (v : Value) : (w_tr ad v).category = v.category := by cases v <;> rfl
theorem w_nl_e {ls : wL} {i : Nat} (h : w_nl ls (i + 1) = true) {v : Value} (hv : ls[i]? = some (some v)) : ¬ v.category = 2 := by
  unfold w_nl at h
  simp only [hv] at h
  cases v <;> simp_all [Value.category]
theorem w_lok.set1 {ad : Nat → Nat} {nL : Nat} {ls : wL} {la la' : Array Slot} {k : Nat} {v : Value} (h : w_lok ad nL ls la) (hk : k < ls.length) (hn : w_nl ls k = true) (h2 : lv_has la' nL ((k, w_tr ad v) :: (w_pics ad ls).filter (fun q => !(q.1 == k) && !(q.1 + 1 == k && q.2.category == 2)))) : w_lok ad nL (ls.set k (some v)) la' := by
  refine ⟨by rw [List.length_set]; exact h.1, h2.1, h2.2.1, fun q hq => ?_⟩
  obtain ⟨i, w⟩ := q
  obtain ⟨u, hu, rfl⟩ := w_pics_mem.mp hq
  rw [List.getElem?_set] at hu
  by_cases e : k = i
  · subst e
    rw [if_pos rfl, if_pos hk] at hu
    cases hu
    exact h2.2.2 _ List.mem_cons_self
  · rw [if_neg e] at hu
    refine h2.2.2 _ (List.mem_cons_of_mem _ (List.mem_filter.mpr ⟨w_pics_mem.mpr ⟨u, hu, rfl⟩, ?_⟩))
    have e2 : ¬ i = k := fun z => e z.symm
    by_cases e3 : i + 1 = k
    · subst e3
      have := w_nl_e hn hu
      simp [w_tr_cat, this]
    · simp [e2, e3]
theorem w_lok.set2 {ad : Nat → Nat} {nL : Nat} {ls : wL} {la la' : Array Slot} {k : Nat} {v : Value} (h : w_lok ad nL ls la) (hk : k + 1 < ls.length) (hn : w_nl ls k = true) (h2 : lv_has la' nL ((k, w_tr ad v) :: (w_pics ad ls).filter (fun q => !(q.1 == k) && (!(q.1 == k + 1) && !(q.1 + 1 == k && q.2.category == 2))))) : w_lok ad nL ((ls.set k (some v)).set (k + 1) none) la' := by
  refine ⟨by rw [List.length_set, List.length_set]; exact h.1, h2.1, h2.2.1, fun q hq => ?_⟩
  obtain ⟨i, w⟩ := q
  obtain ⟨u, hu, rfl⟩ := w_pics_mem.mp hq
  rw [List.getElem?_set] at hu
  by_cases e0 : k + 1 = i
  · subst e0
    rw [if_pos rfl, List.length_set, if_pos hk] at hu
    cases hu
  rw [if_neg e0, List.getElem?_set] at hu
  by_cases e : k = i
  · subst e
    rw [if_pos rfl, if_pos (by omega)] at hu
    cases hu
    exact h2.2.2 _ List.mem_cons_self
  · rw [if_neg e] at hu
    refine h2.2.2 _ (List.mem_cons_of_mem _ (List.mem_filter.mpr ⟨w_pics_mem.mpr ⟨u, hu, rfl⟩, ?_⟩))
    have e2 : ¬ i = k := fun z => e z.symm
    have e4 : ¬ i = k + 1 := fun z => e0 z.symm
    by_cases e3 : i + 1 = k
    · subst e3
      have := w_nl_e hn hu
      simp [w_tr_cat, this]
      omega
    · simp [e2, e3, e4]
/-! the pure step: what must hold ahead of an instruction, so that K holds behind it -/
def w_i (st : List Value) (f : Int32 → List Value → Prop) : Prop := match st with
  | .int x :: r => f x r
  | _ => False
def w_ii (st : List Value) (f : Int32 → Int32 → List Value → Prop) : Prop := match st with
  | .int y :: .int x :: r => f x y r
  | _ => False
def w_l (st : List Value) (f : Int64 → List Value → Prop) : Prop := match st with
  | .long x :: r => f x r
  | _ => False
def w_ll (st : List Value) (f : Int64 → Int64 → List Value → Prop) : Prop := match st with
  | .long y :: .long x :: r => f x y r
  | _ => False
def w_li (st : List Value) (f : Int64 → Int32 → List Value → Prop) : Prop := match st with
  | .int y :: .long x :: r => f x y r
  | _ => False
def w_r (st : List Value) (f : Nat → List Value → Prop) : Prop := match st with
  | .ref q :: r => f q r
  | _ => False
def w_ir (st : List Value) (f : Nat → Int32 → List Value → Prop) : Prop := match st with
  | .int i :: .ref q :: r => f q i r
  | _ => False
def w_iir (st : List Value) (f : Nat → Int32 → Int32 → List Value → Prop) : Prop := match st with
  | .int x :: .int i :: .ref q :: r => f q i x r
  | _ => False
def w_lv (ls : wL) (k : Nat) (f : Value → Prop) : Prop := match ls[k]? with
  | some (some v) => f v
  | _ => False
def w_st1 (ls : wL) (k : Nat) (v : Value) (f : wL → Prop) : Prop := match Nat.blt k ls.length && w_nl ls k with
  | true => f (ls.set k (some v))
  | false => False
def w_st2 (ls : wL) (k : Nat) (v : Value) (f : wL → Prop) : Prop := match Nat.blt (k + 1) ls.length && w_nl ls k with
  | true => f ((ls.set k (some v)).set (k + 1) none)
  | false => False
def w_sw (x : Int32) (f : Nat → Prop) : Int → List Nat → Prop
  | _, [] => True
  | a, t :: ts => (x.toInt = a → f t) ∧ w_sw x f (a + 1) ts
def w_inA (sh : wSh) (n k q : Nat) (i : Int32) : Prop := q < n ∧ ∃ len, sh q = .inr (k, len) ∧ vp_in i len
def w_al (sh : wSh) (q : Nat) : Nat := match sh q with
  | .inr (_, len) => len
  | _ => 0
def w_pv (rf : Nat → Nat → Nat) (μ : wM) (ci q j : Nat) : Value := match w_fk ci j with
  | true => .ref (rf q j)
  | false => .int (μ q j)
def w_bit (x : Int32) : Prop := x = 0 ∨ x = 1
def w_rok (rty : Option FieldType) (x : Int32) : Prop := match rty with
  | some .int => True
  | some .boolean => w_bit x
  | _ => False
def w_fok (ty : FieldType) (x : Int32) : Prop := match ty with
  | .int => True
  | .boolean => w_bit x
  | _ => False
def w_pr (vd : Bool) (r : Int32) (st : List Value) : List Value := match vd with
  | true => st
  | false => .int r :: st
def w_call (static : Bool) (S : Option wS) (st : List Value) (μ : wM) (f : List Value → wM → Prop) : Prop := match S with
  | none => False
  | some S => match S.1 == static && Nat.ble S.2.2.1 st.length && Nat.ble (st.drop S.2.2.1).length 4 with
    | true => S.2.2.2.1 (st.take S.2.2.1).reverse μ ∧ ∀ r μ', S.2.2.2.2 (st.take S.2.2.1).reverse μ r μ' → f (w_pr S.2.1 r (st.drop S.2.2.1)) μ'
    | false => False
def w_b (c : Jvm.ClassFile.Cond) (x y : Int32) (T F : Prop) : Prop := match c with
  | .eq => (x = y → T) ∧ (¬ x = y → F)
  | .ne => (x = y → F) ∧ (¬ x = y → T)
  | .lt => (x < y → T) ∧ (¬ x < y → F)
  | .ge => (y ≤ x → T) ∧ (¬ y ≤ x → F)
  | .gt => (y < x → T) ∧ (¬ y < x → F)
  | .le => (x ≤ y → T) ∧ (¬ x ≤ y → F)
def w_1 (o : Nat) (Γ : Nat → Option wS) (sh : wSh) (rf : Nat → Nat → Nat) (n : Nat) (rty : Option FieldType) (ret : Int32 → wM → Prop) (ins : Instr) (tg : List Nat) (K : wK) (i : Nat) (ls : wL) (st : List Value) (μ : wM) : Prop :=
  match ins with
  | .aload_n k => w_lv ls k fun v => (match v with
    | .ref q => K (i + 1) ls (.ref q :: st) μ
    | _ => False)
  | .aload k => w_lv ls k fun v => (match v with
    | .ref q => K (i + 1) ls (.ref q :: st) μ
    | _ => False)
  | .iload_n k => w_lv ls k fun v => (match v with
    | .int q => K (i + 1) ls (.int q :: st) μ
    | _ => False)
  | .iload k => w_lv ls k fun v => (match v with
    | .int q => K (i + 1) ls (.int q :: st) μ
    | _ => False)
  | .lload_n k => w_lv ls k fun v => (match v with
    | .long q => K (i + 1) ls (.long q :: st) μ
    | _ => False)
  | .istore_n k => w_i st fun x r => w_st1 ls k (.int x) fun ls' => K (i + 1) ls' r μ
  | .istore k => w_i st fun x r => w_st1 ls k (.int x) fun ls' => K (i + 1) ls' r μ
  | .astore_n k => w_r st fun x r => w_st1 ls k (.ref x) fun ls' => K (i + 1) ls' r μ
  | .astore k => w_r st fun x r => w_st1 ls k (.ref x) fun ls' => K (i + 1) ls' r μ
  | .lstore_n k => w_l st fun x r => w_st2 ls k (.long x) fun ls' => K (i + 1) ls' r μ
  | .iinc k d => w_lv ls k fun v => (match v with
    | .int x => w_st1 ls k (.int (x + Int32.ofInt d)) fun ls' => K (i + 1) ls' st μ
    | _ => False)
  | .iconst v => K (i + 1) ls (.int (Int32.ofInt v) :: st) μ
  | .bipush v => K (i + 1) ls (.int (Int8.ofInt v).toInt32 :: st) μ
  | .sipush v => K (i + 1) ls (.int (Int16.ofInt v).toInt32 :: st) μ
  | .lconst v => K (i + 1) ls (.long (Int64.ofNat (v : Nat)) :: st) μ
  | .ldc k => (match w_lk (w_k32 o) k with
    | some v => K (i + 1) ls (.int v :: st) μ
    | none => False)
  | .ldc_w k => (match w_lk (w_k32 o) k with
    | some v => K (i + 1) ls (.int v :: st) μ
    | none => False)
  | .ldc2_w k => (match w_lk (w_k64 o) k with
    | some v => K (i + 1) ls (.long v :: st) μ
    | none => False)
  | .iadd => w_ii st fun x y r => K (i + 1) ls (.int (x + y) :: r) μ
  | .isub => w_ii st fun x y r => K (i + 1) ls (.int (x - y) :: r) μ
  | .imul => w_ii st fun x y r => K (i + 1) ls (.int (x * y) :: r) μ
  | .iand => w_ii st fun x y r => K (i + 1) ls (.int (x &&& y) :: r) μ
  | .ior => w_ii st fun x y r => K (i + 1) ls (.int (x ||| y) :: r) μ
  | .ixor => w_ii st fun x y r => K (i + 1) ls (.int (x ^^^ y) :: r) μ
  | .idiv => w_ii st fun x y r => y ≠ 0 ∧ K (i + 1) ls (.int (x / y) :: r) μ
  | .irem => w_ii st fun x y r => y ≠ 0 ∧ K (i + 1) ls (.int (x - x / y * y) :: r) μ
  | .ishl => w_ii st fun x y r => K (i + 1) ls (.int (x <<< (y &&& 31)) :: r) μ
  | .ishr => w_ii st fun x y r => K (i + 1) ls (.int (x >>> (y &&& 31)) :: r) μ
  | .iushr => w_ii st fun x y r => K (i + 1) ls (.int ((x.toUInt32 >>> (y.toUInt32 &&& Int32.toUInt32 31)).toInt32) :: r) μ
  | .ladd => w_ll st fun x y r => K (i + 1) ls (.long (x + y) :: r) μ
  | .lsub => w_ll st fun x y r => K (i + 1) ls (.long (x - y) :: r) μ
  | .lmul => w_ll st fun x y r => K (i + 1) ls (.long (x * y) :: r) μ
  | .land => w_ll st fun x y r => K (i + 1) ls (.long (x &&& y) :: r) μ
  | .lor => w_ll st fun x y r => K (i + 1) ls (.long (x ||| y) :: r) μ
  | .ldiv => w_ll st fun x y r => y ≠ 0 ∧ K (i + 1) ls (.long (x / y) :: r) μ
  | .lcmp => w_ll st fun x y r => K (i + 1) ls (.int (lg_cmp x y) :: r) μ
  | .lshl => w_li st fun x y r => K (i + 1) ls (.long (x <<< (y.toInt64 &&& 63)) :: r) μ
  | .lshr => w_li st fun x y r => K (i + 1) ls (.long (x >>> (y.toInt64 &&& 63)) :: r) μ
  | .lushr => w_li st fun x y r => K (i + 1) ls (.long ((x.toUInt64 >>> (y.toInt64.toUInt64 &&& Int64.toUInt64 63)).toInt64) :: r) μ
  | .i2l => w_i st fun x r => K (i + 1) ls (.long x.toInt64 :: r) μ
  | .l2i => w_l st fun x r => K (i + 1) ls (.int x.toInt32 :: r) μ
  | .i2b => w_i st fun x r => K (i + 1) ls (.int x.toInt8.toInt32 :: r) μ
  | .i2s => w_i st fun x r => K (i + 1) ls (.int x.toInt16.toInt32 :: r) μ
  | .dup => (match st with
    | .int x :: r => K (i + 1) ls (.int x :: .int x :: r) μ
    | .ref x :: r => K (i + 1) ls (.ref x :: .ref x :: r) μ
    | _ => False)
  | .dup2 => (match st with
    | .int x :: .ref y :: r => K (i + 1) ls (.int x :: .ref y :: .int x :: .ref y :: r) μ
    | _ => False)
  | .pop => w_i st fun _ r => K (i + 1) ls r μ
  | .goto _ => (match tg with
    | [t] => K t ls st μ
    | _ => False)
  | .ifCond c _ => (match tg with
    | [t] => w_i st fun x r => w_b c x 0 (K t ls r μ) (K (i + 1) ls r μ)
    | _ => False)
  | .if_icmp c _ => (match tg with
    | [t] => w_ii st fun x y r => w_b c x y (K t ls r μ) (K (i + 1) ls r μ)
    | _ => False)
  | .tableswitch _ lo hi _ => (match tg with
    | d :: ts => w_i st fun x r => w_sw x (fun t => K t ls r μ) lo ts ∧ (x.toInt < lo ∨ hi < x.toInt → K d ls r μ)
    | _ => False)
  | .getfield k => (match w_lk (w_fl o) k with
    | some e => w_r st fun q r => (q < n ∧ sh q = .inl e.1) ∧ K (i + 1) ls (w_pv rf μ e.1 q e.2 :: r) μ
    | none => False)
  | .putfield k => (match w_lk (w_fl o) k with
    | some e => (match (w_T e.1 e.2).2.2.2 || w_fk e.1 e.2 with
      | false => w_ir st fun q x r => (q < n ∧ sh q = .inl e.1 ∧ w_fok (w_ty e.1 e.2) x) ∧ K (i + 1) ls r (w_up μ q e.2 x)
      | true => False)
    | none => False)
  | .iaload => w_ir st fun q j r => w_inA sh n 0 q j ∧ K (i + 1) ls (.int (μ q j.toNatClampNeg) :: r) μ
  | .baload => w_ir st fun q j r => w_inA sh n 1 q j ∧ K (i + 1) ls (.int (μ q j.toNatClampNeg) :: r) μ
  | .aaload => w_ir st fun q j r => (w_inA sh n 2 q j ∨ w_inA sh n 3 q j) ∧ K (i + 1) ls (.ref (rf q j.toNatClampNeg) :: r) μ
  | .iastore => w_iir st fun q j x r => w_inA sh n 0 q j ∧ K (i + 1) ls r (w_up μ q j.toNatClampNeg x)
  | .bastore => w_iir st fun q j x r => (w_inA sh n 1 q j ∧ w_bit x) ∧ K (i + 1) ls r (w_up μ q j.toNatClampNeg x)
  | .arraylength => w_r st fun q r => (q < n ∧ sh q = .inr (0, w_al sh q)) ∧ K (i + 1) ls (.int (nI (w_al sh q)) :: r) μ
  | .invokevirtual k => w_call false (Γ k) st μ fun st' μ' => K (i + 1) ls st' μ'
  | .invokestatic k => w_call true (Γ k) st μ fun st' μ' => K (i + 1) ls st' μ'
  | .ireturn => (match st with
    | [.int x] => w_rok rty x ∧ ret x μ
    | _ => False)
  | .return_ => (match st, rty with
    | [], none => ret 0 μ
    | _, _ => False)
  | _ => False
noncomputable def w_at {α : Type} (l : List α) : Nat → Option α := List.rec (fun _ => none) (fun a _ ih i => Nat.rec (some a) (fun j _ => ih j) i) l
/-- locals forgotten at a cut -/
def w_fg (ks : List Nat) (ls : wL) : wL := match ks with
  | [] => ls
  | k :: ks => w_fg ks (ls.set k none)
noncomputable def w_n (o : Nat) (Γ : Nat → Option wS) (sh : wSh) (rf : Nat → Nat → Nat) (n : Nat) (rty : Option FieldType) (ret : Int32 → wM → Prop) (tb : wT) (cut : Nat → Option (List Nat)) (K : wK) (fuel : Nat) : wK :=
  Nat.rec K (fun _ ih i ls st μ => match w_at tb i with
    | none => False
    | some t => w_1 o Γ sh rf n rty ret t.1 t.2.2 (fun j ls' st' μ' => match cut j with
      | some ks => K j (w_fg ks ls') st' μ'
      | none => ih j ls' st' μ') i ls st μ) fuel
/-- closed under all walks -/
def w_cl (o : Nat) (Γ : Nat → Option wS) (sh : wSh) (rf : Nat → Nat → Nat) (n : Nat) (rty : Option FieldType) (ret : Int32 → wM → Prop) (tb : wT) (K : wK) : Prop :=
  ∀ (cut : Nat → Option (List Nat)) (fuel i : Nat) (ls : wL) (st : List Value) (μ : wM), w_n o Γ sh rf n rty ret tb cut K fuel i ls st μ → K i ls st μ
