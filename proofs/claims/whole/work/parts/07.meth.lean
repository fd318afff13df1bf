/-! from the pure walk of a method to its contract; from contracts to calls -/
def w_B (D : va_G) (kc : Nat → ClassId) (sh : wSh) (rf : Nat → Nat → Nat) (n : Nat) (ad : Nat → Nat) (A : Nat → Prop) (μ : wM) (t : State) : Prop := va_P D vwCl (w_w kc sh rf n ad μ) t.heap ∧ va_K D vwCl (w_tys kc) t ∧ va_D A (w_w kc sh rf n ad μ)
def w_P (D : va_G) (kc : Nat → ClassId) (sh : wSh) (rf : Nat → Nat → Nat) (n : Nat) (ad : Nat → Nat) (sz : Nat) (μ : wM) (U : State) : Prop := U.heap.size = sz ∧ va_P D vwCl (w_w kc sh rf n ad μ) U.heap ∧ va_K D vwCl (w_tys kc) U ∧ va_D (fun _ => True) (w_w kc sh rf n ad μ) ∧ w_NL U
def w_Q (rty : Option FieldType) (post : Int32 → wM → Prop) (B : wM → State → Prop) (A : Nat → Prop) : Array Value → State → Outcome → State → Prop := match rty with
  | none => va_Qv (fun μ => post 0 μ) B A
  | some _ => va_Qi post B A
def w_Met (l : Launch) (y : MethodName) (bytes : ByteArray) (maxL : Nat) (rty : Option FieldType) (d : Nat) (sh : wSh) (rf : Nat → Nat → Nat) (n : Nat) (pre : List Value → wM → Prop) (post : List Value → wM → Int32 → wM → Prop) : Prop :=
  ∀ (D : va_G) (kc : Nat → ClassId) (ad : Nat → Nat) (sz : Nat) (as : List Value) (μ : wM), pre as μ →
    Met l y (.code y bytes maxL rty :: w_tbl) (w_rm d) (va_Pc (as.map (w_tr ad)) (w_P D kc sh rf n ad sz μ)) (w_Q rty (post as μ) (w_B D kc sh rf n ad (w_A n ad sz)) (w_A n ad sz)) 0 0 (w_A n ad sz)
def w_ent : List Value → wL
  | [] => []
  | v :: r => if v.category = 2 then some v :: none :: w_ent r else some v :: w_ent r
def w_entry (nL : Nat) (as : List Value) : wL := w_ent as ++ List.replicate (nL - (w_ent as).length) none
theorem w_ent_args (ad : Nat → Nat) : ∀ (as : List Value) (j i : Nat) (v : Value), (w_ent as)[i]? = some (some v) → (j + i, w_tr ad v) ∈ lv_args j (as.map (w_tr ad)) := by
  intro as
  induction as with
  | nil => intro j i v h; simp [w_ent] at h
  | cons a as ih =>
    intro j i v h
    unfold w_ent at h
    rw [List.map_cons]
    unfold lv_args
    rw [w_tr_cat]
    by_cases hc : a.category = 2
    · rw [if_pos hc] at h ⊢
      match i, h with
      | 0, h => cases h; exact List.mem_cons_self
      | 1, h => cases h
      | i + 2, h =>
        have := ih (j + 2) i v (by simpa using h)
        rw [show j + (i + 2) = j + 2 + i by omega]
        exact List.mem_cons_of_mem _ this
    · rw [if_neg hc] at h ⊢
      match i, h with
      | 0, h => cases h; exact List.mem_cons_self
      | i + 1, h =>
        have := ih (j + 1) i v (by simpa using h)
        rw [show j + (i + 1) = j + 1 + i by omega]
        exact List.mem_cons_of_mem _ this
theorem w_ent_len (ad : Nat → Nat) : ∀ (as : List Value), (lg_sl (as.map (w_tr ad))).length = (w_ent as).length := by
  intro as
  induction as with
  | nil => rfl
  | cons a as ih =>
    unfold w_ent
    rw [List.map_cons]
    unfold lg_sl at ih ⊢
    rw [List.flatMap_cons, List.length_append, ih, w_tr_cat]
    by_cases hc : a.category = 2
    · rw [if_pos hc, if_pos hc]
      simp
      omega
    · rw [if_neg hc, if_neg hc]
      simp
      omega
theorem w_lok_entry (ad : Nat → Nat) {nL : Nat} {as : List Value} (h : (w_ent as).length ≤ nL) : w_lok ad nL (w_entry nL as) ((lg_sl (as.map (w_tr ad)) ++ List.replicate (nL - (lg_sl (as.map (w_tr ad))).length) Slot.unset).toArray) := by
  have h1 := lv_entry (as.map (w_tr ad)) (n := nL) (by rw [w_ent_len]; exact h)
  refine ⟨by unfold w_entry; simp; omega, h1.1, h1.2.1, fun q hq => ?_⟩
  obtain ⟨i, w⟩ := q
  obtain ⟨v, hv, rfl⟩ := w_pics_mem.mp hq
  unfold w_entry at hv
  by_cases hi : i < (w_ent as).length
  · rw [List.getElem?_append_left hi] at hv
    have := w_ent_args ad as 0 i v hv
    rw [Nat.zero_add] at this
    exact h1.2.2 _ this
  · rw [List.getElem?_append_right (by omega)] at hv
    have := List.eq_of_mem_replicate (List.mem_of_getElem? hv)
    cases this
theorem w_NL.warm {s U : State} (hW : s.WarmedH U.vm) (h : w_NL s) : w_NL U := ⟨h.1.warmM hW, h.2.warmM hW⟩
theorem w_P.blind {D : va_G} {kc : Nat → ClassId} {sh : wSh} {rf : Nat → Nat → Nat} {n : Nat} {ad : Nat → Nat} {sz : Nat} {μ : wM} {av : List Value} : FrameBlind (va_Pc av (w_P D kc sh rf n ad sz μ)) := by
  intro a U g mk q
  obtain ⟨q0, q1, qP, qK, qD, qN⟩ := q
  exact ⟨q0, q1, qP, va_K.moved (u := U) (U := U.calling g mk a) (Vm.Alike.refl U.vm) qK, qD, ⟨va_Nw.same rfl rfl qN.1, va_Nw.same rfl rfl qN.2⟩⟩
section WMETH
variable {l : Launch} {sh : wSh} {rf : Nat → Nat → Nat} {n d d' o : Nat} {y : MethodName} {bytes : ByteArray} {maxL : Nat} {rty : Option FieldType} {pre : List Value → wM → Prop} {post : List Value → wM → Int32 → wM → Prop}
theorem w_lok.fg {ad : Nat → Nat} {nL : Nat} {la : Array Slot} : ∀ (ks : List Nat) (ls : wL), w_lok ad nL ls la → w_lok ad nL (w_fg ks ls) la := by
  intro ks
  induction ks with
  | nil => intro ls h; exact h
  | cons k ks ih => intro ls h; exact ih _ (h.forg k)
theorem w_sim_fg {p : Program} {l : Launch} {e : Env} {R : Room} {s : State} {m : MethodId} {args : Array Value} {below : List Frame} {meth : Method} {c : Code} {D : va_G} {kc : Nat → ClassId} {sh : wSh} {rf : Nat → Nat → Nat} {n : Nat} {ad : Nat → Nat} {A : Nat → Prop} {H0 : Heap} {nL : Nat} {Q : State → Prop} {tb : wT} {i : Nat} {ls : wL} {st : List Value} {μ : wM} (ks : List Nat) (h : w_sim p l e R s m args below meth c D kc sh rf n ad A H0 nL Q tb i (w_fg ks ls) st μ) : w_sim p l e R s m args below meth c D kc sh rf n ad A H0 nL Q tb i ls st μ :=
  fun H locs la hP hS hl => h H locs la hP hS (hl.fg ks ls)
theorem w_n_sim {p : Program} {e : Env} {s : State} {m : MethodId} {args : Array Value} {below : List Frame} {meth : Method} {c : Code} {D : va_G} {kc : Nat → ClassId} {ad : Nat → Nat} {A : Nat → Prop} {H0 : Heap} {cc : ByteArray} {nL : Nat} {Qc : Array Value → State → Outcome → State → Prop} {free : Addr → Prop}
    {Γ : Nat → Option wS} {tb : wT} {ret : Int32 → wM → Prop} (E : w_env p s m args meth c D kc n ad A H0 cc nL o rty) (hok : w_ok cc tb = true)
    (hΓ : ∀ (idx : Nat) (S : wS), Γ idx = some S → w_Call l o idx S d sh rf n)
    (hret : ∀ (r : Int32) (μ : wM) (H : Heap) (locs : List Loc), (rty = none → r = 0) → ret r μ → va_P D vwCl (w_w kc sh rf n ad μ) H → va_S A H0 H locs → (∀ t : State, t.heap = H → s.WarmedH t.vm → Qc args s (.returned (w_ov rty r)) t) ∧ ∀ q ∈ locs, free q.base) :
    w_cl o Γ sh rf n rty ret tb (w_sim p l e (w_rm d) s m args below meth c D kc sh rf n ad A H0 nL (MQ below Qc args s 0 0 free) tb) := by
  intro cut fuel
  induction fuel with
  | zero => intro i ls st μ h; exact h
  | succ f ih =>
    intro i ls st μ h
    have h : (match w_at tb i with
      | none => False
      | some t => w_1 o Γ sh rf n rty ret t.1 t.2.2 (fun j ls' st' μ' => match cut j with
        | some ks => w_sim p l e (w_rm d) s m args below meth c D kc sh rf n ad A H0 nL (MQ below Qc args s 0 0 free) tb j (w_fg ks ls') st' μ'
        | none => w_n o Γ sh rf n rty ret tb cut (w_sim p l e (w_rm d) s m args below meth c D kc sh rf n ad A H0 nL (MQ below Qc args s 0 0 free) tb) f j ls' st' μ') i ls st μ) := h
    cases ht : w_at tb i with
    | none => rw [ht] at h; exact h.elim
    | some t =>
      rw [ht] at h
      refine w_step E hok hΓ hret ?_ ht h
      intro j ls' st' μ' hj
      split at hj
      · next ks _ => exact w_sim_fg ks hj
      · exact ih _ _ _ _ hj
set_option maxHeartbeats 4000000 in
/-- a method's contract out of its pure walk -/
theorem w_meth {Γ : Nat → Option wS} {tb : wT} (hy : plainName y.cls = true) (hcls : y.cls = w_C o) (hok : w_ok bytes tb = true) (hpc : w_pc tb 0 = 0)
    (hΓ : ∀ (idx : Nat) (S : wS), Γ idx = some S → w_Call l o idx S d sh rf n)
    (hlen : ∀ as μ, pre as μ → (w_ent as).length ≤ maxL)
    (vc : ∀ (as : List Value) (μ : wM), pre as μ → ∀ K : wK, w_cl o Γ sh rf n rty (post as μ) tb K → K 0 (w_entry maxL as) [] μ) : w_Met l y bytes maxL rty d sh rf n pre post := by
  intro D kc ad sz as μ hpre
  refine Met.ofW (cc := bytes) (maxL := maxL) (ret := rty) hy rfl ?_
  intro p e s m args below meth c s₁ B hml hv
  obtain ⟨rfl, hsz, hP, hK, hD0, hNL⟩ := hv
  have hts := atoms_spec (ws := .code y bytes maxL rty :: w_tbl) B.pre
  have hown : s.vm.findClass (w_C o) = some m.cls := by rw [← hcls]; exact findClass_of_methodNamed B.named
  subst hsz
  have hap : w_ap n ad (w_A n ad s.heap.size) := ⟨(w_D' hD0).1, fun i hi => Or.inl ⟨i, hi, rfl⟩⟩
  have hA : ∀ q : Nat, s.heap.size ≤ q → w_A n ad s.heap.size q := fun q h => Or.inr h
  have E : w_env p s m (as.map (w_tr ad)).toArray meth c D kc n ad (w_A n ad s.heap.size) s.heap bytes maxL o rty := ⟨B.exec, B.bytes, hml, hown, fun w hw => hts w (List.mem_cons_of_mem _ hw), hK, hNL, hA, hap, B.notSynchronized, B.returns⟩
  rw [lg_entry_eq]
  have hcl := w_n_sim (l := l) (sh := sh) (rf := rf) (d := d) (e := e) (below := below) (Γ := Γ) (tb := tb) (ret := post as μ) (Qc := w_Q rty (post as μ) (w_B D kc sh rf n ad (w_A n ad s.heap.size)) (w_A n ad s.heap.size)) (free := w_A n ad s.heap.size) E hok hΓ (by
    intro r μ' H locs hr0 hp hP1 hS1
    refine ⟨fun t ht hW => ?_, hS1.2.2⟩
    have hB : w_B D kc sh rf n ad (w_A n ad s.heap.size) μ' t := ⟨by rw [ht]; exact hP1, va_K.moved hW.alike hK, w_D hap μ'⟩
    cases rty with
    | none => exact ⟨⟨μ', rfl, by rw [← hr0 rfl]; exact hp, hB⟩, hS1.F ht⟩
    | some ty => exact ⟨⟨r, μ', rfl, hp, hB⟩, hS1.F ht⟩)
  have h0 := vc as μ hpre _ hcl s.heap [] _ hP va_S.rf (w_lok_entry ad (hlen as μ hpre))
  rw [hpc] at h0
  exact h0
theorem w_good {y : MethodName} {bytes : ByteArray} {maxL : Nat} {rty : Option FieldType} (h : Cond.code y bytes maxL rty ∈ w_tbl) : GoodIn w_tbl (.code y bytes maxL rty :: w_tbl) := by
  intro w hw
  have key : ∀ w ∈ w_tbl, w ∈ w_tbl ∧ ((w.onTables && w.keeps) = true ∨ ∃ ty, w = .arrayClass ty) := fun w hw => ⟨hw, good_of_word (List.mem_filter.mp hw).2⟩
  rcases List.mem_cons.mp hw with rfl | hw
  · exact key _ h
  · exact key _ hw
theorem w_cat_sum {ad : Nat → Nat} : ∀ (rest : List Value), ((rest.map (w_tr ad)).map fun v => v.category).sum ≤ 2 * rest.length := by
  intro rest
  induction rest with
  | nil => exact Nat.le_refl _
  | cons a r ih =>
    rw [List.map_cons, List.map_cons, List.sum_cons, List.length_cons]
    have := lv_cat (w_tr ad a)
    omega
set_option maxHeartbeats 4000000 in
theorem w_behind {p : Program} {e : Env} {s : State} {m : MethodId} {args : Array Value} {below : List Frame} {meth : Method} {c : Code} {D : va_G} {kc : Nat → ClassId} {ad : Nat → Nat} {A : Nat → Prop} {H0 : Heap} {cc : ByteArray} {nL : Nat} {rt : Option FieldType} {Q : State → Prop} {R : Room} {a : Array Value} {st0 : List Value}
    (E : w_env p s m args meth c D kc n ad A H0 cc nL o rt) {pc : Nat} {la : Array Slot} {as rest : List Value} {μ : wM} {H : Heap} {locs : List Loc} (hS : va_S A H0 H locs)
    (hrun : va_Run p l e R s m args below meth c H locs 0 0 0 0 (F0 m pc la st0) (rest.map (w_tr ad)) (w_Q rty (post as μ) (w_B D kc sh rf n ad (w_A n ad H.size)) (w_A n ad H.size) a) (w_A n ad H.size))
    (kk : ∀ (r : Int32) (μ' : wM) (H1 : Heap) (locs1 : List Loc), post as μ r μ' → va_P D vwCl (w_w kc sh rf n ad μ') H1 → va_S A H0 H1 locs1 → W p l e R s m args below meth c H1 locs1 0 0 Q (F0 m (pc + 3) la ((w_pr rty.isNone r rest).map (w_tr ad)))) :
    W p l e R s m args below meth c H locs 0 0 Q (F0 m pc la st0) := by
  obtain ⟨hx, hb, hml, hown, hts, hK0, hNL, hA, hap, hlocks, hr⟩ := E
  have hf : ∀ q, w_A n ad H.size q → A q := by
    rintro q (⟨k, hk, rfl⟩ | h)
    · exact hap.2 k hk
    · exact hA q (Nat.le_trans hS.1 h)
  cases rty with
  | none =>
    refine va_callv (a := a) (rest := rest.map (w_tr ad)) hrun hS (fun q _ h => hf q h) hf (fun u t H1 locs1 ht hvm hp hB hz hk hS1 => ?_)
    exact kk 0 u H1 locs1 hp (by rw [← ht]; exact hB.1) hS1
  | some ty =>
    refine va_calli (a := a) (rest := rest.map (w_tr ad)) hrun hS (fun q _ h => hf q h) hf (fun r u t H1 locs1 ht hvm hp hB hz hk hS1 => ?_)
    exact kk r u H1 locs1 hp (by rw [← ht]; exact hB.1) hS1
theorem w_pre_at {s : State} {D : va_G} {kc : Nat → ClassId} {ad : Nat → Nat} {A : Nat → Prop} {μ : wM} {H : Heap} (hK0 : va_K D vwCl (w_tys kc) s) (hNL : w_NL s) (hap : w_ap n ad A) (hP : va_P D vwCl (w_w kc sh rf n ad μ) H) : ∀ U : State, U.heap = H → s.WarmedH U.vm → w_P D kc sh rf n ad H.size μ U :=
  fun U hU hW => ⟨by rw [hU], by rw [hU]; exact hP, va_K.moved hW.alike hK0, w_D ⟨hap.1, fun _ _ => trivial⟩ μ, hNL.warm hW⟩
set_option maxHeartbeats 4000000 in
/-- a static call -/
theorem w_callS {idx na : Nat} (hM : w_Met l y bytes maxL rty d' sh rf n pre post) (hcode : Cond.code y bytes maxL rty ∈ w_tbl) (hlink : Cond.methodLink (w_C o) idx y ∈ w_tbl) (hst : Cond.static y ∈ w_tbl) (hini : Cond.initialized y.cls ∈ w_tbl)
    (hd : y.cls ≠ "java/lang/invoke/MethodHandle" ∧ y.cls ≠ "java/lang/invoke/VarHandle" ∧ (parseMethodDescriptor y.desc).map (fun d => d.parameters.length) = some na) (hdd : d' + 1 ≤ d) (hmx : maxL ≤ 21) : w_Call l o idx (true, rty.isNone, na, pre, post) d sh rf n := by
  intro p e s m args below meth c D kc ad A H0 cc nL rt Q E pc la as rest μ H locs hla hdg hlen hrest hpre hP hS kk
  obtain ⟨hx, hb, hml, hown, hts, hK0, hNL, hA, hap, hlocks, hr⟩ := id E
  refine w_behind (rty := rty) (post := post) (a := (as.map (w_tr ad)).toArray) E hS ?_ kk
  have hs := w_cat_sum (ad := ad) rest
  refine va_runS (As := as.map (w_tr ad)) (rest := rest.map (w_tr ad)) (n := na) (nL := nL) ⟨hx, hb, hml, hown, hts⟩ (hM D kc ad H.size as μ hpre) ⟨callB_of na hts (w_good hcode) rfl rfl rfl (hts _ hini) (hts _ hlink) hd ⟨hdd, ?_⟩, hts _ hst⟩ ⟨w_P.blind, fun U hU hW => ⟨rfl, w_pre_at hK0 hNL hap hP U hU hW⟩⟩ rfl (by rw [List.length_map]; exact hlen) hla ?_ ?_ hdg ⟨Nat.le_refl _, Nat.le_refl _⟩
  · show 8 + (maxL + 11) + 40 * d' ≤ 40 * d
    omega
  · show (as.reverse ++ rest).map (w_tr ad) = (as.map (w_tr ad)).reverse ++ rest.map (w_tr ad)
    rw [List.map_append, List.map_reverse]
  · show 2 * 0 + _ ≤ 8
    omega
set_option maxHeartbeats 4000000 in
/-- a static call of a nest mate's private method -/
theorem w_callSN {idx na : Nat} {host : String} (hM : w_Met l y bytes maxL rty d' sh rf n pre post) (hcode : Cond.code y bytes maxL rty ∈ w_tbl) (hlink : ∀ U, w_NL U → va_Nw (.methodLinkNest (w_C o) idx y host) U) (hst : Cond.static y ∈ w_tbl) (hini : Cond.initialized y.cls ∈ w_tbl)
    (hd : y.cls ≠ "java/lang/invoke/MethodHandle" ∧ y.cls ≠ "java/lang/invoke/VarHandle" ∧ (parseMethodDescriptor y.desc).map (fun d => d.parameters.length) = some na) (hdd : d' + 1 ≤ d) (hmx : maxL ≤ 21) : w_Call l o idx (true, rty.isNone, na, pre, post) d sh rf n := by
  intro p e s m args below meth c D kc ad A H0 cc nL rt Q E pc la as rest μ H locs hla hdg hlen hrest hpre hP hS kk
  obtain ⟨hx, hb, hml, hown, hts, hK0, hNL, hA, hap, hlocks, hr⟩ := id E
  refine w_behind (rty := rty) (post := post) (a := (as.map (w_tr ad)).toArray) E hS ?_ kk
  have hs := w_cat_sum (ad := ad) rest
  refine va_runSN (As := as.map (w_tr ad)) (rest := rest.map (w_tr ad)) (n := na) (nL := nL) ⟨hx, hb, hml, hown, hts⟩ (hM D kc ad H.size as μ hpre) ⟨va_cnB na hts (w_good hcode) rfl rfl rfl (hlink s hNL) (hts _ hini) hd ⟨hdd, ?_⟩, hts _ hst, trivial⟩ ⟨w_P.blind, fun U hU hW => ⟨rfl, w_pre_at hK0 hNL hap hP U hU hW⟩⟩ rfl (by rw [List.length_map]; exact hlen) hla ?_ ?_ hdg ⟨Nat.le_refl _, Nat.le_refl _⟩
  · show 8 + (maxL + 11) + 40 * d' ≤ 40 * d
    omega
  · show (as.reverse ++ rest).map (w_tr ad) = (as.map (w_tr ad)).reverse ++ rest.map (w_tr ad)
    rw [List.map_append, List.map_reverse]
  · show 2 * 0 + _ ≤ 8
    omega
set_option maxHeartbeats 4000000 in
/-- a call of an object's method -/
theorem w_callV {idx na ci : Nat} (hM : w_Met l y bytes maxL rty d' sh rf n pre post) (hci : ci < 9) (hrecv : ∀ as μ, pre as μ → ∃ q as', as = .ref q :: as' ∧ q < n ∧ sh q = .inl ci) (hcode : Cond.code y bytes maxL rty ∈ w_tbl) (hlink : Cond.methodLink (w_C o) idx y ∈ w_tbl) (hin : Cond.instanceMethod y ∈ w_tbl) (hsel : Cond.selects (w_C ci) y y ∈ w_tbl) (hini : Cond.initialized y.cls ∈ w_tbl)
    (hd : y.cls ≠ "java/lang/invoke/MethodHandle" ∧ y.cls ≠ "java/lang/invoke/VarHandle" ∧ (parseMethodDescriptor y.desc).map (fun d => d.parameters.length) = some na) (hdd : d' + 1 ≤ d) (hmx : maxL ≤ 21) : w_Call l o idx (false, rty.isNone, na + 1, pre, post) d sh rf n := by
  intro p e s m args below meth c D kc ad A H0 cc nL rt Q E pc la as rest μ H locs hla hdg hlen hrest hpre hP hS kk
  obtain ⟨hx, hb, hml, hown, hts, hK0, hNL, hA, hap, hlocks, hr⟩ := id E
  have hs := w_cat_sum (ad := ad) rest
  have hM0 := hM D kc ad H.size as μ hpre
  obtain ⟨q, as', rfl, hq, hsh⟩ := hrecv as μ hpre
  obtain ⟨c1, -⟩ := w_cls ci hci
  refine w_behind (rty := rty) (post := post) (as := .ref q :: as') (a := (Value.ref (ad q) :: as'.map (w_tr ad)).toArray) E hS ?_ kk
  refine va_runV (C := w_C ci) (b := ad q) (As := as'.map (w_tr ad)) (rest := rest.map (w_tr ad)) (n := na) (nL := nL) ⟨hx, hb, hml, hown, hts⟩ hM0 ⟨callB_of na hts (w_good hcode) rfl rfl rfl (hts _ hini) (hts _ hlink) hd ⟨hdd, ?_⟩, hts _ hin, hts _ hsel⟩ ⟨w_P.blind, va_recv hK0 hP (ci := ci) (q0 := q) c1 ((w_w_at hq).trans (by rw [w_e_obj hsh])), fun U hU hW => ⟨rfl, w_pre_at hK0 hNL hap hP U hU hW⟩⟩ rfl (by rw [List.length_map]; simpa using hlen) hla ?_ ?_ hdg ⟨Nat.le_refl _, Nat.le_refl _⟩
  · show 8 + (maxL + 11) + 40 * d' ≤ 40 * d
    omega
  · show ((Value.ref q :: as').reverse ++ rest).map (w_tr ad) = (as'.map (w_tr ad)).reverse ++ Value.ref (ad q) :: rest.map (w_tr ad)
    rw [List.map_append, List.map_reverse, List.map_cons, List.reverse_cons, List.append_assoc]
    rfl
  · show 2 * 0 + _ ≤ 8
    omega
end WMETH
