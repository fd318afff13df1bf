theorem w_sw_e {x : Int32} {f : Nat → Prop} : ∀ (ts : List Nat) (a : Int) (j : Nat) (hj : j < ts.length), w_sw x f a ts → x.toInt = a + j → f ts[j] := by
  intro ts
  induction ts with
  | nil => intro a j hj; exact absurd hj (Nat.not_lt_zero _)
  | cons t ts ih =>
    intro a j hj h hx
    cases j with
    | zero => exact h.1 (by rw [hx]; simp)
    | succ j => exact ih (a + 1) j (by simpa using hj) h.2 (by rw [hx]; push_cast; omega)
section WSOUND
variable {p : Program} {l : Launch} {e : Env} {R : Room} {s : State} {m : MethodId} {args : Array Value} {below : List Frame} {meth : Method} {c : Code}
variable {D : va_G} {kc : Nat → ClassId} {sh : wSh} {rf : Nat → Nat → Nat} {n : Nat} {ad : Nat → Nat} {A : Nat → Prop} {H0 : Heap} {cc : ByteArray} {nL o d : Nat} {rty : Option FieldType} {Qc : Array Value → State → Outcome → State → Prop} {free : Addr → Prop}
set_option maxHeartbeats 4000000 in
set_option maxRecDepth 100000 in
/-- one instruction: the pure step is the machine's -/
theorem w_step {Γ : Nat → Option wS} {tb : wT} {ret : Int32 → wM → Prop} {K : wK} (E : w_env p s m args meth c D kc n ad A H0 cc nL o rty) (hok : w_ok cc tb = true)
    (hΓ : ∀ (idx : Nat) (S : wS), Γ idx = some S → w_Call l o idx S d sh rf n)
    (hret : ∀ (r : Int32) (μ : wM) (H : Heap) (locs : List Loc), (rty = none → r = 0) → ret r μ → va_P D vwCl (w_w kc sh rf n ad μ) H → va_S A H0 H locs → (∀ t : State, t.heap = H → s.WarmedH t.vm → Qc args s (.returned (w_ov rty r)) t) ∧ ∀ q ∈ locs, free q.base)
    (hK : ∀ i ls st μ, K i ls st μ → w_sim p l e (w_rm d) s m args below meth c D kc sh rf n ad A H0 nL (MQ below Qc args s 0 0 free) tb i ls st μ)
    {i : Nat} {t : Instr × Nat × List Nat} (ht : w_at tb i = some t) {ls : wL} {st : List Value} {μ : wM} (h : w_1 o Γ sh rf n rty ret t.1 t.2.2 K i ls st μ) :
    w_sim p l e (w_rm d) s m args below meth c D kc sh rf n ad A H0 nL (MQ below Qc args s 0 0 free) tb i ls st μ := by
  obtain ⟨⟨L, hdec, hlen⟩, hnx, htg⟩ := w_okE_e (w_ok_at hok ht)
  have hpc : w_pc tb i = t.2.1 := by unfold w_pc; rw [ht]
  obtain ⟨hx, hb, hml, hown, hts, hK0, hNL, hA, hap, hlocks, hr⟩ := id E
  obtain ⟨ins, pc, tg⟩ := t
  dsimp only at hdec hlen hnx htg h hpc
  intro H locs la hP hS hl
  rw [hpc]
  cases ins with

  | aload_n k =>
    obtain rfl := hlen rfl
    have hn := hnx rfl
    obtain ⟨v, hv, h⟩ := w_lv_e h
    cases v with
    | ref x =>
      exact lv_aload_n hx hb hdec rfl (hl.at hv) (by have z := hK _ _ _ _ h H locs la hP hS hl; rw [hn] at z; exact z)
    | _ => exact h.elim
  | iload_n k =>
    obtain rfl := hlen rfl
    have hn := hnx rfl
    obtain ⟨v, hv, h⟩ := w_lv_e h
    cases v with
    | int x =>
      exact lv_iload_n hx hb hdec rfl (hl.at hv) (by have z := hK _ _ _ _ h H locs la hP hS hl; rw [hn] at z; exact z)
    | _ => exact h.elim
  | lload_n k =>
    obtain rfl := hlen rfl
    have hn := hnx rfl
    obtain ⟨v, hv, h⟩ := w_lv_e h
    cases v with
    | long x =>
      exact lv_lload_n hx hb hdec rfl (hl.at hv) (by have z := hK _ _ _ _ h H locs la hP hS hl; rw [hn] at z; exact z)
    | _ => exact h.elim
  | aload k =>
    obtain rfl := hlen rfl
    have hn := hnx rfl
    obtain ⟨v, hv, h⟩ := w_lv_e h
    cases v with
    | ref x =>
      exact lv_aload hx hb hdec (hl.at hv) (by have z := hK _ _ _ _ h H locs la hP hS hl; rw [hn] at z; exact z)
    | _ => exact h.elim
  | iload k =>
    obtain rfl := hlen rfl
    have hn := hnx rfl
    obtain ⟨v, hv, h⟩ := w_lv_e h
    cases v with
    | int x =>
      exact lv_iload hx hb hdec (hl.at hv) (by have z := hK _ _ _ _ h H locs la hP hS hl; rw [hn] at z; exact z)
    | _ => exact h.elim
  | istore_n k =>
    obtain rfl := hlen rfl
    have hn := hnx rfl
    obtain ⟨x, r, rfl, h⟩ := w_i_e h
    have h : w_st1 ls k (.int x) (fun ls' => K (i + 1) ls' r μ) := h
    obtain ⟨h1, h2, h⟩ := w_st1_e h
    exact lv_istore_n hx hb hdec rfl hl.2 (by rw [← hl.1]; exact h1) rfl (fun la' hl' => by have z := hK _ _ _ _ h H locs la' hP hS (w_lok.set1 (v := .int x) hl h1 h2 hl'); rw [hn] at z; exact z)
  | istore k =>
    obtain rfl := hlen rfl
    have hn := hnx rfl
    obtain ⟨x, r, rfl, h⟩ := w_i_e h
    have h : w_st1 ls k (.int x) (fun ls' => K (i + 1) ls' r μ) := h
    obtain ⟨h1, h2, h⟩ := w_st1_e h
    exact lv_istore hx hb hdec hl.2 (by rw [← hl.1]; exact h1) rfl (fun la' hl' => by have z := hK _ _ _ _ h H locs la' hP hS (w_lok.set1 (v := .int x) hl h1 h2 hl'); rw [hn] at z; exact z)
  | astore_n k =>
    obtain rfl := hlen rfl
    have hn := hnx rfl
    obtain ⟨x, r, rfl, h⟩ := w_r_e h
    have h : w_st1 ls k (.ref x) (fun ls' => K (i + 1) ls' r μ) := h
    obtain ⟨h1, h2, h⟩ := w_st1_e h
    exact lv_astore_n hx hb hdec rfl hl.2 (by rw [← hl.1]; exact h1) rfl (fun la' hl' => by have z := hK _ _ _ _ h H locs la' hP hS (w_lok.set1 (v := .ref x) hl h1 h2 hl'); rw [hn] at z; exact z)
  | astore k =>
    obtain rfl := hlen rfl
    have hn := hnx rfl
    obtain ⟨x, r, rfl, h⟩ := w_r_e h
    have h : w_st1 ls k (.ref x) (fun ls' => K (i + 1) ls' r μ) := h
    obtain ⟨h1, h2, h⟩ := w_st1_e h
    exact lv_astore hx hb hdec hl.2 (by rw [← hl.1]; exact h1) rfl (fun la' hl' => by have z := hK _ _ _ _ h H locs la' hP hS (w_lok.set1 (v := .ref x) hl h1 h2 hl'); rw [hn] at z; exact z)
  | lstore_n k =>
    obtain rfl := hlen rfl
    have hn := hnx rfl
    obtain ⟨x, r, rfl, h⟩ := w_l_e h
    have h : w_st2 ls k (.long x) (fun ls' => K (i + 1) ls' r μ) := h
    obtain ⟨h1, h2, h⟩ := w_st2_e h
    exact lv_lstore_n hx hb hdec rfl hl.2 (by rw [← hl.1]; exact h1) rfl (fun la' hl' => by have z := hK _ _ _ _ h H locs la' hP hS (w_lok.set2 (v := .long x) hl h1 h2 hl'); rw [hn] at z; exact z)
  | iinc k dd =>
    obtain rfl := hlen rfl
    have hn := hnx rfl
    obtain ⟨v, hv, h⟩ := w_lv_e h
    cases v with
    | int x =>
      obtain ⟨h1, h2, h⟩ := w_st1_e h
      obtain ⟨kk, hkk⟩ := List.getElem?_of_mem (w_pics_mem.mpr ⟨_, hv, rfl⟩ : (k, w_tr ad (.int x)) ∈ w_pics ad ls)
      exact lv_iinc hx hb hdec hl.2 hkk rfl (by rw [← hl.1]; exact h1) rfl (fun la' hl' => by have z := hK _ _ _ _ h H locs la' hP hS (w_lok.set1 (v := .int (x + Int32.ofInt dd)) hl h1 h2 hl'); rw [hn] at z; exact z)
    | _ => exact h.elim
  | iconst v =>
    obtain rfl := hlen rfl
    have hn := hnx rfl
    exact lv_iconst hx hb hdec rfl (by have z := hK _ _ _ _ h H locs la hP hS hl; rw [hn] at z; exact z)
  | bipush v =>
    obtain rfl := hlen rfl
    have hn := hnx rfl
    exact lv_bipush hx hb hdec rfl (by have z := hK _ _ _ _ h H locs la hP hS hl; rw [hn] at z; exact z)
  | sipush v =>
    obtain rfl := hlen rfl
    have hn := hnx rfl
    exact lv_sipush hx hb hdec rfl (by have z := hK _ _ _ _ h H locs la hP hS hl; rw [hn] at z; exact z)
  | lconst v =>
    obtain rfl := hlen rfl
    have hn := hnx rfl
    exact lv_lconst hx hb hdec rfl (by have z := hK _ _ _ _ h H locs la hP hS hl; rw [hn] at z; exact z)
  | ldc k =>
    obtain rfl := hlen rfl
    have hn := hnx rfl
    have h : (match w_lk (w_k32 o) k with
      | some v => K (i + 1) ls (.int v :: st) μ
      | none => False) := h
    cases hk : w_lk (w_k32 o) k with
    | none => rw [hk] at h; exact h.elim
    | some v =>
      rw [hk] at h
      exact lv_ldc hx hb hown (hts _ (w_k32ok o hk)) hdec (by have z := hK _ _ _ _ h H locs la hP hS hl; rw [hn] at z; exact z)
  | ldc_w k =>
    obtain rfl := hlen rfl
    have hn := hnx rfl
    have h : (match w_lk (w_k32 o) k with
      | some v => K (i + 1) ls (.int v :: st) μ
      | none => False) := h
    cases hk : w_lk (w_k32 o) k with
    | none => rw [hk] at h; exact h.elim
    | some v =>
      rw [hk] at h
      exact lv_ldcw hx hb hown (hts _ (w_k32ok o hk)) hdec (by have z := hK _ _ _ _ h H locs la hP hS hl; rw [hn] at z; exact z)
  | ldc2_w k =>
    obtain rfl := hlen rfl
    have hn := hnx rfl
    have h : (match w_lk (w_k64 o) k with
      | some v => K (i + 1) ls (.long v :: st) μ
      | none => False) := h
    cases hk : w_lk (w_k64 o) k with
    | none => rw [hk] at h; exact h.elim
    | some v =>
      rw [hk] at h
      exact lv_ldc2 hx hb hown (hts _ (w_k64ok o hk)) hdec (by have z := hK _ _ _ _ h H locs la hP hS hl; rw [hn] at z; exact z)
  | iadd =>
    obtain rfl := hlen rfl
    have hn := hnx rfl
    obtain ⟨x, y, r, rfl, h⟩ := w_ii_e h
    exact lv_iadd hx hb hdec (by have z := hK _ _ _ _ h H locs la hP hS hl; rw [hn] at z; exact z)
  | isub =>
    obtain rfl := hlen rfl
    have hn := hnx rfl
    obtain ⟨x, y, r, rfl, h⟩ := w_ii_e h
    exact lv_isub hx hb hdec (by have z := hK _ _ _ _ h H locs la hP hS hl; rw [hn] at z; exact z)
  | imul =>
    obtain rfl := hlen rfl
    have hn := hnx rfl
    obtain ⟨x, y, r, rfl, h⟩ := w_ii_e h
    exact lv_imul hx hb hdec (by have z := hK _ _ _ _ h H locs la hP hS hl; rw [hn] at z; exact z)
  | iand =>
    obtain rfl := hlen rfl
    have hn := hnx rfl
    obtain ⟨x, y, r, rfl, h⟩ := w_ii_e h
    exact lv_iand hx hb hdec (by have z := hK _ _ _ _ h H locs la hP hS hl; rw [hn] at z; exact z)
  | ior =>
    obtain rfl := hlen rfl
    have hn := hnx rfl
    obtain ⟨x, y, r, rfl, h⟩ := w_ii_e h
    exact lv_ior hx hb hdec (by have z := hK _ _ _ _ h H locs la hP hS hl; rw [hn] at z; exact z)
  | ixor =>
    obtain rfl := hlen rfl
    have hn := hnx rfl
    obtain ⟨x, y, r, rfl, h⟩ := w_ii_e h
    exact lv_ixor hx hb hdec (by have z := hK _ _ _ _ h H locs la hP hS hl; rw [hn] at z; exact z)
  | ishl =>
    obtain rfl := hlen rfl
    have hn := hnx rfl
    obtain ⟨x, y, r, rfl, h⟩ := w_ii_e h
    exact lv_ishl hx hb hdec (by have z := hK _ _ _ _ h H locs la hP hS hl; rw [hn] at z; exact z)
  | ishr =>
    obtain rfl := hlen rfl
    have hn := hnx rfl
    obtain ⟨x, y, r, rfl, h⟩ := w_ii_e h
    exact lv_ishr hx hb hdec (by have z := hK _ _ _ _ h H locs la hP hS hl; rw [hn] at z; exact z)
  | idiv =>
    obtain rfl := hlen rfl
    have hn := hnx rfl
    obtain ⟨x, y, r, rfl, h⟩ := w_ii_e h
    exact lv_idiv hx hb hdec h.1 (by have z := hK _ _ _ _ h.2 H locs la hP hS hl; rw [hn] at z; exact z)
  | irem =>
    obtain rfl := hlen rfl
    have hn := hnx rfl
    obtain ⟨x, y, r, rfl, h⟩ := w_ii_e h
    exact lv_irem hx hb hdec h.1 (by have z := hK _ _ _ _ h.2 H locs la hP hS hl; rw [hn] at z; exact z)
  | iushr =>
    obtain rfl := hlen rfl
    have hn := hnx rfl
    obtain ⟨x, y, r, rfl, h⟩ := w_ii_e h
    exact lv_iushr hx hb hdec rfl (by have z := hK _ _ _ _ h H locs la hP hS hl; rw [hn] at z; exact z)
  | ladd =>
    obtain rfl := hlen rfl
    have hn := hnx rfl
    obtain ⟨x, y, r, rfl, h⟩ := w_ll_e h
    exact lv_ladd hx hb hdec (by have z := hK _ _ _ _ h H locs la hP hS hl; rw [hn] at z; exact z)
  | lsub =>
    obtain rfl := hlen rfl
    have hn := hnx rfl
    obtain ⟨x, y, r, rfl, h⟩ := w_ll_e h
    exact lv_lsub hx hb hdec (by have z := hK _ _ _ _ h H locs la hP hS hl; rw [hn] at z; exact z)
  | lmul =>
    obtain rfl := hlen rfl
    have hn := hnx rfl
    obtain ⟨x, y, r, rfl, h⟩ := w_ll_e h
    exact lv_lmul hx hb hdec (by have z := hK _ _ _ _ h H locs la hP hS hl; rw [hn] at z; exact z)
  | land =>
    obtain rfl := hlen rfl
    have hn := hnx rfl
    obtain ⟨x, y, r, rfl, h⟩ := w_ll_e h
    exact lv_land hx hb hdec (by have z := hK _ _ _ _ h H locs la hP hS hl; rw [hn] at z; exact z)
  | lor =>
    obtain rfl := hlen rfl
    have hn := hnx rfl
    obtain ⟨x, y, r, rfl, h⟩ := w_ll_e h
    exact lv_lor hx hb hdec (by have z := hK _ _ _ _ h H locs la hP hS hl; rw [hn] at z; exact z)
  | ldiv =>
    obtain rfl := hlen rfl
    have hn := hnx rfl
    obtain ⟨x, y, r, rfl, h⟩ := w_ll_e h
    exact lv_ldiv hx hb hdec h.1 (by have z := hK _ _ _ _ h.2 H locs la hP hS hl; rw [hn] at z; exact z)
  | lcmp =>
    obtain rfl := hlen rfl
    have hn := hnx rfl
    obtain ⟨x, y, r, rfl, h⟩ := w_ll_e h
    exact W.lcmp hx hb hdec (by have z := hK _ _ _ _ h H locs la hP hS hl; rw [hn] at z; exact z)
  | lshl =>
    obtain rfl := hlen rfl
    have hn := hnx rfl
    obtain ⟨x, y, r, rfl, h⟩ := w_li_e h
    exact lv_lshl hx hb hdec rfl (by have z := hK _ _ _ _ h H locs la hP hS hl; rw [hn] at z; exact z)
  | lshr =>
    obtain rfl := hlen rfl
    have hn := hnx rfl
    obtain ⟨x, y, r, rfl, h⟩ := w_li_e h
    exact lv_lshr hx hb hdec rfl (by have z := hK _ _ _ _ h H locs la hP hS hl; rw [hn] at z; exact z)
  | lushr =>
    obtain rfl := hlen rfl
    have hn := hnx rfl
    obtain ⟨x, y, r, rfl, h⟩ := w_li_e h
    exact lv_lushr hx hb hdec rfl (by have z := hK _ _ _ _ h H locs la hP hS hl; rw [hn] at z; exact z)
  | i2l =>
    obtain rfl := hlen rfl
    have hn := hnx rfl
    obtain ⟨x, r, rfl, h⟩ := w_i_e h
    exact lv_i2l hx hb hdec rfl (by have z := hK _ _ _ _ h H locs la hP hS hl; rw [hn] at z; exact z)
  | l2i =>
    obtain rfl := hlen rfl
    have hn := hnx rfl
    obtain ⟨x, r, rfl, h⟩ := w_l_e h
    exact lv_l2i hx hb hdec rfl (by have z := hK _ _ _ _ h H locs la hP hS hl; rw [hn] at z; exact z)
  | i2b =>
    obtain rfl := hlen rfl
    have hn := hnx rfl
    obtain ⟨x, r, rfl, h⟩ := w_i_e h
    exact lv_i2b hx hb hdec rfl (by have z := hK _ _ _ _ h H locs la hP hS hl; rw [hn] at z; exact z)
  | i2s =>
    obtain rfl := hlen rfl
    have hn := hnx rfl
    obtain ⟨x, r, rfl, h⟩ := w_i_e h
    exact lv_i2s hx hb hdec rfl (by have z := hK _ _ _ _ h H locs la hP hS hl; rw [hn] at z; exact z)
  | dup =>
    obtain rfl := hlen rfl
    have hn := hnx rfl
    unfold w_1 at h
    dsimp only at h
    split at h
    · exact lv_dup hx hb hdec rfl (by have z := hK _ _ _ _ h H locs la hP hS hl; rw [hn] at z; exact z)
    · exact lv_dup hx hb hdec rfl (by have z := hK _ _ _ _ h H locs la hP hS hl; rw [hn] at z; exact z)
    · exact h.elim
  | dup2 =>
    obtain rfl := hlen rfl
    have hn := hnx rfl
    unfold w_1 at h
    dsimp only at h
    split at h
    · exact lv_dup2_11 hx hb hdec rfl rfl (by have z := hK _ _ _ _ h H locs la hP hS hl; rw [hn] at z; exact z)
    · exact h.elim
  | pop =>
    obtain rfl := hlen rfl
    have hn := hnx rfl
    obtain ⟨x, r, rfl, h⟩ := w_i_e h
    exact lv_pop hx hb hdec rfl (by have z := hK _ _ _ _ h H locs la hP hS hl; rw [hn] at z; exact z)
  | goto off =>
    obtain rfl := hlen rfl
    unfold w_1 at h
    unfold w_tgB at htg
    dsimp only at h htg
    split at h
    · exact lv_goto hx hb hdec (of_decide_eq_true htg) (hK _ _ _ _ h H locs la hP hS hl)
    · exact h.elim
  | ifCond cd off =>
    obtain rfl := hlen rfl
    have hn := hnx rfl
    unfold w_1 at h
    unfold w_tgB at htg
    dsimp only at h htg
    split at h
    · obtain ⟨x, r, rfl, h⟩ := w_i_e h
      have ht2 := of_decide_eq_true htg
      cases cd with
      | eq => exact lv_if_eq hx hb hdec ht2 (fun z => hK _ _ _ _ (h.1 z) H locs la hP hS hl) (fun z => by have z := hK _ _ _ _ (h.2 z) H locs la hP hS hl; rw [hn] at z; exact z)
      | ne => exact lv_if_ne hx hb hdec ht2 (fun z => hK _ _ _ _ (h.2 z) H locs la hP hS hl) (fun z => by have z := hK _ _ _ _ (h.1 z) H locs la hP hS hl; rw [hn] at z; exact z)
      | lt => exact lv_if_lt hx hb hdec ht2 (fun z => hK _ _ _ _ (h.1 z) H locs la hP hS hl) (fun z => by have z := hK _ _ _ _ (h.2 z) H locs la hP hS hl; rw [hn] at z; exact z)
      | ge => exact lv_if_ge hx hb hdec ht2 (fun z => hK _ _ _ _ (h.1 z) H locs la hP hS hl) (fun z => by have z := hK _ _ _ _ (h.2 z) H locs la hP hS hl; rw [hn] at z; exact z)
      | gt => exact lv_if_gt hx hb hdec ht2 (fun z => hK _ _ _ _ (h.1 z) H locs la hP hS hl) (fun z => by have z := hK _ _ _ _ (h.2 z) H locs la hP hS hl; rw [hn] at z; exact z)
      | le => exact lv_if_le hx hb hdec ht2 (fun z => hK _ _ _ _ (h.1 z) H locs la hP hS hl) (fun z => by have z := hK _ _ _ _ (h.2 z) H locs la hP hS hl; rw [hn] at z; exact z)
    · exact h.elim
  | if_icmp cd off =>
    obtain rfl := hlen rfl
    have hn := hnx rfl
    unfold w_1 at h
    unfold w_tgB at htg
    dsimp only at h htg
    split at h
    · obtain ⟨x, y, r, rfl, h⟩ := w_ii_e h
      have ht2 := of_decide_eq_true htg
      cases cd with
      | eq => exact lv_icmp_eq hx hb hdec ht2 (fun z => hK _ _ _ _ (h.1 z) H locs la hP hS hl) (fun z => by have z := hK _ _ _ _ (h.2 z) H locs la hP hS hl; rw [hn] at z; exact z)
      | ne => exact lv_icmp_ne hx hb hdec ht2 (fun z => hK _ _ _ _ (h.2 z) H locs la hP hS hl) (fun z => by have z := hK _ _ _ _ (h.1 z) H locs la hP hS hl; rw [hn] at z; exact z)
      | lt => exact lv_icmp_lt hx hb hdec ht2 (fun z => hK _ _ _ _ (h.1 z) H locs la hP hS hl) (fun z => by have z := hK _ _ _ _ (h.2 z) H locs la hP hS hl; rw [hn] at z; exact z)
      | ge => exact lv_icmp_ge hx hb hdec ht2 (fun z => hK _ _ _ _ (h.1 z) H locs la hP hS hl) (fun z => by have z := hK _ _ _ _ (h.2 z) H locs la hP hS hl; rw [hn] at z; exact z)
      | gt => exact lv_icmp_gt hx hb hdec ht2 (fun z => hK _ _ _ _ (h.1 z) H locs la hP hS hl) (fun z => by have z := hK _ _ _ _ (h.2 z) H locs la hP hS hl; rw [hn] at z; exact z)
      | le => exact lv_icmp_le hx hb hdec ht2 (fun z => hK _ _ _ _ (h.1 z) H locs la hP hS hl) (fun z => by have z := hK _ _ _ _ (h.2 z) H locs la hP hS hl; rw [hn] at z; exact z)
    · exact h.elim
  | tableswitch df lo hi offs =>
    unfold w_1 at h
    unfold w_tgB at htg
    dsimp only at h htg
    split at h
    · next d0 ts =>
      dsimp only at htg
      rw [Bool.and_eq_true, Bool.and_eq_true] at htg
      obtain ⟨⟨g1, g2⟩, g3⟩ := htg
      have g1 := of_decide_eq_true g1
      have g2 := of_decide_eq_true g2
      have g3 := of_decide_eq_true g3
      obtain ⟨x, r, rfl, h⟩ := w_i_e h
      by_cases hout : x.toInt < lo ∨ hi < x.toInt
      · exact lv_tableOut hx hb hdec hout g1 (hK _ _ _ _ (h.2 hout) H locs la hP hS hl)
      · have h1 : ¬ x.toInt < lo := fun z => hout (Or.inl z)
        have h2 : ¬ hi < x.toInt := fun z => hout (Or.inr z)
        obtain ⟨j, hj⟩ : ∃ j : Nat, x.toInt = lo + j := ⟨(x.toInt - lo).toNat, by omega⟩
        have hjl : j < ts.length := by omega
        have hKt := w_sw_e ts lo j hjl h.1 hj
        have hol : (offs.toList.map (fun x => (pc : Int) + x))[j]? = (ts.map (fun t => (w_pc tb t : Int)))[j]? := by rw [g3]
        rw [List.getElem?_map, List.getElem?_map, List.getElem?_eq_getElem hjl] at hol
        cases ho : offs.toList[j]? with
        | none => rw [ho] at hol; cases hol
        | some of0 =>
          rw [ho] at hol
          have hoe := Option.some.inj hol
          refine lv_tableIn (off := of0) hx hb hdec h1 h2 ?_ hoe (hK _ _ _ _ hKt H locs la hP hS hl)
          rw [show (x.toInt - lo).toNat = j by omega, ← Array.getElem?_toList]
          exact ho
    · exact h.elim
  | getfield k =>
    obtain rfl := hlen rfl
    have hn := hnx rfl
    have h : (match w_lk (w_fl o) k with
      | some e => w_r st fun q r => (q < n ∧ sh q = .inl e.1) ∧ K (i + 1) ls (w_pv rf μ e.1 q e.2 :: r) μ
      | none => False) := h
    cases hk : w_lk (w_fl o) k with
    | none => rw [hk] at h; exact h.elim
    | some ee =>
      rw [hk] at h
      obtain ⟨ci, j⟩ := ee
      obtain ⟨q, r, rfl, ⟨hq, hsh⟩, h⟩ := w_r_e h
      obtain ⟨f1, f2, f3⟩ := w_flok o hk
      obtain ⟨c1, c2, c3, c4, c5⟩ := w_cls ci f1
      refine va_get (D := D) (ci := ci) (v := w_fv rf ad μ ci q j) (C := w_C ci) (T := w_T ci) (N := w_nf ci) hx hb hts c2 hown hK0 hP q ((w_w_at hq).trans (by rw [w_e_obj hsh])) c1 j f2 (hts _ f3) (fun x h9 => by rw [c5 j f2] at h9; exact h9) (w_get f2) hdec ?_
      have z := hK _ _ _ _ h H locs la hP hS hl
      rw [hn] at z
      rw [← w_pv_tr]
      exact z
  | putfield k =>
    obtain rfl := hlen rfl
    have hn := hnx rfl
    have h : (match w_lk (w_fl o) k with
      | some e => (match (w_T e.1 e.2).2.2.2 || w_fk e.1 e.2 with
        | false => w_ir st fun q x r => (q < n ∧ sh q = .inl e.1 ∧ w_fok (w_ty e.1 e.2) x) ∧ K (i + 1) ls r (w_up μ q e.2 x)
        | true => False)
      | none => False) := h
    cases hk : w_lk (w_fl o) k with
    | none => rw [hk] at h; exact h.elim
    | some ee =>
      rw [hk] at h
      obtain ⟨ci, j⟩ := ee
      dsimp only at h
      cases hfin : ((w_T ci j).2.2.2 || w_fk ci j) with
      | true => rw [hfin] at h; exact h.elim
      | false =>
        rw [hfin] at h
        rw [Bool.or_eq_false_iff] at hfin
        obtain ⟨q, x, r, rfl, ⟨hq, hsh, hfo⟩, h⟩ := w_ir_e h
        obtain ⟨f1, f2, f3⟩ := w_flok o hk
        obtain ⟨c1, c2, c3, c4, c5⟩ := w_cls ci f1
        have hnf : narrow (w_ty ci j) (.int x) = .int x ∧ fits (w_ty ci j) (.int x) = true := by
          unfold w_fok at hfo
          split at hfo
          · next hty => rw [hty]; exact ⟨rfl, rfl⟩
          · next hty =>
            rw [hty]
            rcases hfo with rfl | rfl <;> exact ⟨rfl, rfl⟩
          · exact hfo.elim
        refine va_put (D := D) (ci := ci) (v := .int x) (ty := w_ty ci j) (C := w_C ci) (T := w_T ci) (N := w_nf ci) hx hb hts c2 (w_ty ci) c3 c4 hown hK0 hP (w_D hap μ) hS q ((w_w_at hq).trans (by rw [w_e_obj hsh])) c1 j f2 (hts _ f3) (fun x h9 => by rw [c5 j f2] at h9; exact h9) hfin.1 (c3 j f2) hnf.1 hnf.2 (by simp [f2]) hdec (fun H1 locs1 hP1 hD1 hS1 => ?_)
        have z := hK _ _ _ _ h H1 locs1 la (by
          rw [← w_w_set (E := .inr (ci, ((List.range (w_nf ci)).map (w_fv rf ad μ ci q)).set j (.int x))) hq]
          · exact hP1
          · rw [w_e_obj hsh]
            congr 2
            refine (w_set f2 ?_ ?_).symm
            · unfold w_fv
              rw [hfin.2]
              simp [w_up]
            · intro a ha
              unfold w_fv
              simp [w_up, ha]) hS1 hl
        rw [hn] at z
        exact z
  | iaload =>
    obtain rfl := hlen rfl
    have hn := hnx rfl
    obtain ⟨q, j, r, rfl, ⟨hq, len, hsh, hin⟩, h⟩ := w_ir_e h
    exact va_iald hx hb hK0 hP q 0 ((w_w_at hq).trans (by rw [w_e_int hsh])) rfl hin hdec (by have z := hK _ _ _ _ h H locs la hP hS hl; rw [hn] at z; exact z)
  | baload =>
    obtain rfl := hlen rfl
    have hn := hnx rfl
    obtain ⟨q, j, r, rfl, ⟨hq, len, hsh, hin⟩, h⟩ := w_ir_e h
    exact va_zald hx hb hK0 hP q 1 ((w_w_at hq).trans (by rw [w_e_bool hsh])) rfl hin hdec (by have z := hK _ _ _ _ h H locs la hP hS hl; rw [hn] at z; exact z)
  | aaload =>
    obtain rfl := hlen rfl
    have hn := hnx rfl
    obtain ⟨q, j, r, rfl, hor, h⟩ := w_ir_e h
    rcases hor with ⟨hq, len, hsh, hin⟩ | ⟨hq, len, hsh, hin⟩
    · refine va_aldq hx hb hK0 hP q 2 ((w_w_at hq).trans (by rw [w_e_ref hsh])) rfl hin hdec ?_
      have z := hK _ _ _ _ h H locs la hP hS hl
      rw [hn] at z
      exact z
    · refine va_aldq hx hb hK0 hP q 3 ((w_w_at hq).trans (by rw [w_e_ref hsh])) rfl hin hdec ?_
      have z := hK _ _ _ _ h H locs la hP hS hl
      rw [hn] at z
      exact z
  | iastore =>
    obtain rfl := hlen rfl
    have hn := hnx rfl
    obtain ⟨q, j, x, r, rfl, ⟨hq, len, hsh, hin⟩, h⟩ := w_iir_e h
    refine va_iast hx hb hK0 hP (w_D hap μ) hS q 0 ((w_w_at hq).trans (by rw [w_e_int hsh])) rfl hin hdec (fun H1 locs1 hP1 hD1 hS1 => ?_)
    have z := hK _ _ _ _ h H1 locs1 la (by
      rw [← w_w_set (E := .inl (kc 0, len, .inl (upd (μ q) j.toNatClampNeg x))) hq]
      · exact hP1
      · rw [w_e_int hsh, w_up_s]) hS1 hl
    rw [hn] at z
    exact z
  | bastore =>
    obtain rfl := hlen rfl
    have hn := hnx rfl
    obtain ⟨q, j, x, r, rfl, ⟨⟨hq, len, hsh, hin⟩, hbit⟩, h⟩ := w_iir_e h
    refine va_zast hx hb hK0 hP (w_D hap μ) hS q 1 ((w_w_at hq).trans (by rw [w_e_bool hsh])) rfl hin hdec (fun H1 locs1 hP1 hD1 hS1 => ?_)
    have hx2 : vp_nar .boolean x = x := by rcases hbit with rfl | rfl <;> rfl
    rw [hx2] at hP1
    have z := hK _ _ _ _ h H1 locs1 la (by
      rw [← w_w_set (E := .inl (kc 1, len, .inl (upd (μ q) j.toNatClampNeg x))) hq]
      · exact hP1
      · rw [w_e_bool hsh, w_up_s]) hS1 hl
    rw [hn] at z
    exact z
  | arraylength =>
    obtain rfl := hlen rfl
    have hn := hnx rfl
    obtain ⟨q, r, rfl, ⟨hq, hsh⟩, h⟩ := w_r_e h
    exact va_alen hx hb hK0 hP q 0 ((w_w_at hq).trans (by rw [w_e_int hsh])) rfl rfl hdec (by have z := hK _ _ _ _ h H locs la hP hS hl; rw [hn] at z; exact z)
  | invokevirtual k =>
    obtain rfl := hlen rfl
    have hn := hnx rfl
    have h : w_call false (Γ k) st μ fun st' μ' => K (i + 1) ls st' μ' := h
    cases hg : Γ k with
    | none => rw [hg] at h; exact h.elim
    | some S =>
      rw [hg] at h
      unfold w_call at h
      dsimp only at h
      split at h
      · next hbb =>
        rw [Bool.and_eq_true, Bool.and_eq_true] at hbb
        obtain ⟨⟨b1, b2⟩, b3⟩ := hbb
        have b1 := eq_of_beq b1
        have e1 : (st.take S.2.2.1).reverse.reverse ++ st.drop S.2.2.1 = st := by rw [List.reverse_reverse, List.take_append_drop]
        have z := hΓ k S hg p e s m args below meth c D kc ad A H0 cc nL rty (MQ below Qc args s 0 0 free) E pc la (st.take S.2.2.1).reverse (st.drop S.2.2.1) μ H locs hl.2.1 (by rw [b1]; exact hdec) (by rw [List.length_reverse, List.length_take]; exact Nat.min_eq_left (Nat.le_of_ble_eq_true b2)) (Nat.le_of_ble_eq_true b3) h.1 hP hS (fun r μ' H1 locs1 hp hP1 hS1 => by
          have z := hK _ _ _ _ (h.2 r μ' hp) H1 locs1 la hP1 hS1 hl
          rw [hn] at z
          exact z)
        rw [e1] at z
        exact z
      · exact h.elim
  | invokestatic k =>
    obtain rfl := hlen rfl
    have hn := hnx rfl
    have h : w_call true (Γ k) st μ fun st' μ' => K (i + 1) ls st' μ' := h
    cases hg : Γ k with
    | none => rw [hg] at h; exact h.elim
    | some S =>
      rw [hg] at h
      unfold w_call at h
      dsimp only at h
      split at h
      · next hbb =>
        rw [Bool.and_eq_true, Bool.and_eq_true] at hbb
        obtain ⟨⟨b1, b2⟩, b3⟩ := hbb
        have b1 := eq_of_beq b1
        have e1 : (st.take S.2.2.1).reverse.reverse ++ st.drop S.2.2.1 = st := by rw [List.reverse_reverse, List.take_append_drop]
        have z := hΓ k S hg p e s m args below meth c D kc ad A H0 cc nL rty (MQ below Qc args s 0 0 free) E pc la (st.take S.2.2.1).reverse (st.drop S.2.2.1) μ H locs hl.2.1 (by rw [b1]; exact hdec) (by rw [List.length_reverse, List.length_take]; exact Nat.min_eq_left (Nat.le_of_ble_eq_true b2)) (Nat.le_of_ble_eq_true b3) h.1 hP hS (fun r μ' H1 locs1 hp hP1 hS1 => by
          have z := hK _ _ _ _ (h.2 r μ' hp) H1 locs1 la hP1 hS1 hl
          rw [hn] at z
          exact z)
        rw [e1] at z
        exact z
      · exact h.elim
  | ireturn =>
    obtain rfl := hlen rfl
    unfold w_1 at h
    dsimp only at h
    split at h
    · next x =>
      obtain ⟨hro, h⟩ := h
      unfold w_rok at hro
      split at hro
      · obtain ⟨q1, q2⟩ := hret _ _ H locs (fun z => by cases z) h hP hS
        exact W.zret (ty := .int) hx hb hr rfl q1 q2 hdec
      · obtain ⟨q1, q2⟩ := hret _ _ H locs (fun z => by cases z) h hP hS
        exact W.zret (ty := .boolean) hx hb hr (by rcases hro with rfl | rfl <;> rfl) q1 q2 hdec
      · exact hro.elim
    · exact h.elim
  | return_ =>
    obtain rfl := hlen rfl
    unfold w_1 at h
    dsimp only at h
    split at h
    · obtain ⟨q1, q2⟩ := hret _ _ H locs (fun _ => rfl) h hP hS
      exact W.vret hx hb hr q1 q2 hdec
    · exact h.elim
  | _ => exact h.elim
end WSOUND
