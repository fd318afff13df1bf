/-! THE CLAIM OUT OF ONE WALK OF THE LAW'S BODY. Your part is whole_start (and what it stands on); all else here is the same for every law, but numbers. -/
def R_law : String := "GlenGamesLaw"
def lw_P (b : Addr) (xs : List Int32) (args : Array Value) (s : State) : Prop := args = #[.ref b] ∧ s.IntsAt b xs ∧ xs.length ≤ 3072 ∧ (Jvm.Cond.and given_1 narrow_1).before args s = true
def lw_Q (_ : Array Value) (s : State) (o : Outcome) (t : State) : Prop := o = .returned (some (.int 1)) ∧ Framed s o t [] 600000 7302250
def lw_Z (below : List Frame) (a : Array Value) (s : State) : State → Prop := fun t => ∃ o, t.status = .running ∧ Ended t below o ∧ lw_Q a s o t
/-- the law's own end, with 1 on the stack, nothing written that was there before, its room as the claim has it -/
theorem lw_ret {p : Program} {l : Launch} {e : Env} {s : State} {m : MethodId} {below : List Frame} {meth : Method} {c : Code} {b : Nat} (hx : p.tables.exec = Jvm.exec) (hb : c.code = code) (hr : meth.sig.returnType = ret) (hlocks : meth.locks = false) {pc : Nat} {H : Heap} {ls : Array Slot} (hdg : decode code pc = .ok (.ireturn, 1)) : W p l e room_1 s m #[Value.ref b] below meth c H [] 600000 7302250 (lw_Z below #[Value.ref b] s) (F0 m pc ls [.int 1]) := by
  intro T hT X
  obtain ⟨fs, hret, hrun, hended, hW, hframe⟩ := X.leave (v := some (.int 1)) (hlocks := hlocks) (fun h => by rw [hr] at h; cases h)
  have hmeth' : T.vm.method? m = some meth := X.method'
  refine ⟨T.setFrames fs, ?_, .returned (some (.int 1)), hrun, hended, rfl, ⟨_, rfl⟩, hW, hframe⟩
  jvm_step X.here [X.here.top, hx, hb, hdg, hmeth', hr, ret, narrow_b1]
  (try refine ⟨rfl, ?_⟩); (try refine ⟨rfl, ?_⟩)
  first | (intro acts; rw [hret _ acts rfl rfl rfl]) | rw [hret _ _ rfl rfl rfl]
  exact Steps.refl _
/-- what holds at the law's entry: the machine, the code, the tables' words (any of lw_tbl by 'hts w (by decide +kernel)'), the script of L ints xs at the cell b, what the Statement gives of the start (any of its parts by flat_of_before) -/
def lw_At (p : Program) (s : State) (m : MethodId) (meth : Method) (c : Code) (b L : Nat) (xs : Nat → Int32) : Prop :=
  p.tables.exec = Jvm.exec ∧ c.code = code ∧ meth.sig.returnType = ret ∧ c.maxLocals = 4 ∧ s.vm.findClass R_law = some m.cls ∧ (∀ w ∈ lw_tbl, w.before #[Value.ref b] s = true) ∧ va_X b L xs s s.heap ∧ b < s.heap.size ∧ meth.locks = false ∧ (Jvm.Cond.and given_1 narrow_1).before #[Value.ref b] s = true
/-! the law's frame: the class's world and the model's side by side, and the script -/
section LAWF
variable {p : Program} {l : Launch} {e : Env} {s : State} {m : MethodId} {below : List Frame} {meth : Method} {c : Code}
variable {D : va_G} {kc : Nat → ClassId} {adX adM : Nat → Nat} {b L : Nat} {xs : Nat → Int32} {nc ns : Nat} {Q : State → Prop}
/-- what stands all through the law -/
def g_env (p : Program) (s : State) (m : MethodId) (c : Code) (D : va_G) (kc : Nat → ClassId) (adX adM : Nat → Nat) (b L : Nat) (xs : Nat → Int32) (nc ns : Nat) : Prop :=
  p.tables.exec = Jvm.exec ∧ c.code = code ∧ c.maxLocals = 4 ∧ s.vm.findClass RL = some m.cls ∧ (∀ w ∈ w_tbl, w.before #[Value.ref b] s = true) ∧ va_K D vwCl (w_tys kc) s ∧ w_NL s ∧ va_X b L xs s s.heap ∧ b < s.heap.size ∧ w_ap 43 adX (fun q => s.heap.size ≤ q) ∧ w_ap 32 adM (fun q => s.heap.size ≤ q) ∧ (∀ i j, i < 43 → j < 32 → adX i ≠ adM j) ∧ nc ≤ 600000 ∧ ns ≤ 7302250 ∧ L ≤ 3072
def g_loc (adX adM : Nat → Nat) (b : Nat) (i : Int32) (la : Array Slot) : Prop := lv_has la 4 [(0, .ref b), (1, .ref (adX 0)), (2, .ref (adM 0)), (3, .int i)]
/-- the heap as it stands: both worlds, and nothing old is touched -/
def g_at (s : State) (D : va_G) (kc : Nat → ClassId) (adX adM : Nat → Nat) (μ ν : wM) (H : Heap) (locs : List Loc) : Prop := va_P D vwCl (w_w kc shX rfX 43 adX μ) H ∧ va_P D vwCl (w_w kc shM rfM 32 adM ν) H ∧ va_S (fun q => s.heap.size ≤ q) s.heap H locs
/-- one int of the script -/
theorem g_arg (E : g_env p s m c D kc adX adM b L xs nc ns) {i : Int32} {la : Array Slot} (hl : g_loc adX adM b i la) {H : Heap} {locs : List Loc} (hS : va_S (fun q => s.heap.size ≤ q) s.heap H locs) {pc : Nat} {n : Int} {v : Int32} {st : List Value}
    (hd : decode code pc = .ok (.aload_n 0, 1) ∧ decode code (pc + 1) = .ok (.iload_n 3, 1) ∧ decode code (pc + 2) = .ok (.iconst n, 1) ∧ decode code (pc + 3) = .ok (.iadd, 1) ∧ decode code (pc + 4) = .ok (.iaload, 1)) (hn : Int32.ofInt n = v) (hin : vp_in (i + v) L)
    (kk : W p l e room_1 s m #[Value.ref b] below meth c H locs nc ns Q (F0 m (pc + 5) la (.int (xs (i + v).toNatClampNeg) :: st))) : W p l e room_1 s m #[Value.ref b] below meth c H locs nc ns Q (F0 m pc la st) := by
  obtain ⟨hx, hb, hml, hown, hts, hK0, hNL, hX, hbl, -⟩ := E
  obtain ⟨d0, d1, d2, d3, d4⟩ := hd
  refine lv_aload_n hx hb d0 rfl (lv_at hl 0 rfl) ?_
  refine lv_iload_n hx hb d1 rfl (lv_at hl 3 rfl) ?_
  refine lv_iconst hx hb d2 hn ?_
  refine lv_iadd hx hb d3 ?_
  exact va_sld (A := fun q => s.heap.size ≤ q) hx hb hX hbl (Nat.not_le.mpr hbl) hS hin d4 kk
theorem g_kept {sh2 : wSh} {rf2 : Nat → Nat → Nat} {n n2 : Nat} {ad ad2 : Nat → Nat} {ν : wM} {H H1 : Heap} (hne : ∀ i j, i < n → j < n2 → ad i ≠ ad2 j) (hP : va_P D vwCl (w_w kc sh2 rf2 n2 ad2 ν) H) (hk : ∀ q : Nat, q < H.size → ¬ w_A n ad H.size q → H1[q]? = H[q]?) : va_P D vwCl (w_w kc sh2 rf2 n2 ad2 ν) H1 := by
  refine hP.kept (fun k q hq => ?_)
  have hlt := (hP k q hq).lt
  refine hk _ hlt (fun h => ?_)
  have hkn : k < n2 ∧ q.1 = ad2 k := by
    unfold w_w at hq
    by_cases hk2 : k < n2
    · rw [w_get hk2] at hq
      exact ⟨hk2, (congrArg Prod.fst (Option.some.inj hq)).symm⟩
    · simp [hk2] at hq
  rcases h with ⟨i, hi, h⟩ | h
  · exact hne i k hi hkn.1 (h.trans hkn.2)
  · omega
set_option maxHeartbeats 4000000 in
/-- a call of a world's own method out of the law -/
theorem g_call {sh sh2 : wSh} {rf rf2 : Nat → Nat → Nat} {n n2 : Nat} {ad ad2 : Nat → Nat} {μ ν : wM} {y : MethodName} {bytes : ByteArray} {maxL d' idx na ci : Nat} {ty : FieldType} {pre : List Value → wM → Prop} {post : List Value → wM → Int32 → wM → Prop}
    (E : g_env p s m c D kc adX adM b L xs nc ns) (hM : w_Met l y bytes maxL (some ty) d' sh rf n pre post) (hci : ci < 9) (h0 : 0 < n) (hsh : sh 0 = .inl ci)
    (he : Cond.code y bytes maxL (some ty) ∈ w_tbl ∧ Cond.instanceMethod y ∈ w_tbl ∧ Cond.selects (w_C ci) y y ∈ w_tbl ∧ Cond.initialized y.cls ∈ w_tbl) (hlink : Cond.methodLink RL idx y ∈ w_tbl)
    (hd : y.cls ≠ "java/lang/invoke/MethodHandle" ∧ y.cls ≠ "java/lang/invoke/VarHandle" ∧ (parseMethodDescriptor y.desc).map (fun d => d.parameters.length) = some na) (hdd : d' ≤ 40) (hmx : maxL ≤ 21)
    (hap : w_ap n ad (fun q => s.heap.size ≤ q)) (hne : ∀ i j, i < n → j < n2 → ad i ≠ ad2 j) {as rest : List Value} (hnr : as.map (w_tr ad) = as) (hlen : as.length = na) (hrest : (rest.map fun v => v.category).sum ≤ 8) {pc : Nat} {la : Array Slot} (hla : la.size = 4) (hdg : decode code pc = .ok (.invokevirtual idx, 3))
    {H : Heap} {locs : List Loc} (hpre : pre (.ref 0 :: as) μ) (hP : va_P D vwCl (w_w kc sh rf n ad μ) H) (hP2 : va_P D vwCl (w_w kc sh2 rf2 n2 ad2 ν) H) (hS : va_S (fun q => s.heap.size ≤ q) s.heap H locs)
    (kk : ∀ (r : Int32) (μ' : wM) (H1 : Heap) (locs1 : List Loc), post (.ref 0 :: as) μ r μ' → va_P D vwCl (w_w kc sh rf n ad μ') H1 → va_P D vwCl (w_w kc sh2 rf2 n2 ad2 ν) H1 → va_S (fun q => s.heap.size ≤ q) s.heap H1 locs1 → W p l e room_1 s m #[Value.ref b] below meth c H1 locs1 nc ns Q (F0 m (pc + 3) la (.int r :: rest))) :
    W p l e room_1 s m #[Value.ref b] below meth c H locs nc ns Q (F0 m pc la (as.reverse ++ .ref (ad 0) :: rest)) := by
  obtain ⟨hx, hb, hml, hown, hts, hK0, hNL, hX, hbl, -, -, -, hnc, hns, -⟩ := E
  obtain ⟨e1, e2, e3, e4⟩ := he
  have hM0 := hM D kc ad H.size (.ref 0 :: as) μ hpre
  obtain ⟨c1, -⟩ := w_cls ci hci
  have hf : ∀ q, w_A n ad H.size q → s.heap.size ≤ q := by
    rintro q (⟨k, hk, rfl⟩ | h)
    · exact hap.2 k hk
    · exact Nat.le_trans hS.1 h
  have hm0 : ((Value.ref 0 :: as).map (w_tr ad)) = Value.ref (ad 0) :: as := by rw [List.map_cons, hnr]; rfl
  rw [hm0] at hM0
  have hrun : va_Run p l e room_1 s m #[Value.ref b] below meth c H locs nc ns 0 0 (F0 m pc la (as.reverse ++ .ref (ad 0) :: rest)) rest (w_Q (some ty) (post (.ref 0 :: as) μ) (w_B D kc sh rf n ad (w_A n ad H.size)) (w_A n ad H.size) (Value.ref (ad 0) :: as).toArray) (w_A n ad H.size) := by
    refine va_runV (C := w_C ci) (b := ad 0) (As := as) (rest := rest) (n := na) (nL := 4) ⟨hx, hb, hml, hown, hts⟩ hM0 ⟨callB_of na hts (w_good e1) rfl rfl rfl (hts _ e4) (hts _ hlink) hd ⟨?_, ?_⟩, hts _ e2, hts _ e3⟩ ⟨w_P.blind, va_recv hK0 hP (ci := ci) (q0 := 0) c1 ((w_w_at h0).trans (by rw [w_e_obj hsh])), fun U hU hW => ⟨rfl, w_pre_at hK0 hNL hap hP U hU hW⟩⟩ rfl hlen hla rfl (lv_room hrest) hdg ⟨hnc, hns⟩
    · show d' + 1 ≤ 2048
      omega
    · show 8 + (maxL + 11) + 40 * d' ≤ 84000
      omega
  refine va_calli (a := (Value.ref (ad 0) :: as).toArray) (rest := rest) hrun hS (fun q _ h => hf q h) hf (fun r u t H1 locs1 ht hvm hp hB hz hk hS1 => ?_)
  exact kk r u H1 locs1 hp (by rw [← ht]; exact hB.1) (g_kept hne hP2 hk) hS1
end LAWF
