/-! A METHOD'S WALK OVER THE PLANES -/
def ab_C (fr lo : Nat) (M : ab_MT) (p : Program) (R : Room) (s : State) (m : MethodId) (args : Array Value) (meth : Method) (c : Code) : Prop :=
  p.tables.exec = Jvm.exec ∧ c.code = M.2.1 ∧ c.maxLocals = M.2.2.1 ∧ meth.sig.returnType = M.2.2.2 ∧ meth.locks = false ∧ meth.name = M.1.name ∧ s.vm.findClass M.1.cls = some m.cls ∧ (∀ w ∈ lw_g, w.before args s = true) ∧ R.frames = fr ∧ R.locals = lo
def ab_RT (ret : Option FieldType) (v : Option Value) : Prop := match ret, v with
  | none, none => True
  | some .int, some (.int _) => True
  | some .boolean, some (.int x) => x = 0 ∨ x = 1
  | some (.object _), some (.ref _) => True
  | some (.object _), some .null => True
  | some (.array _), some (.ref _) => True
  | _, _ => False
def ab_RI (M : ab_MT) (v : Option Value) (pc : Nat) : Prop := match v with
  | none => decode M.2.1 pc = .ok (.return_, 1)
  | some (.int _) => decode M.2.1 pc = .ok (.ireturn, 1)
  | some _ => decode M.2.1 pc = .ok (.areturn, 1)
abbrev ab_Po : Type := Option Value → ab_M → Prop
/-- what waits at the method's end -/
def ab_H (G : ab_G) (M : ab_MT) (p : Program) (l : Launch) (e : Env) (R : Room) (s : State) (m : MethodId) (args : Array Value) (below : List Frame) (meth : Method) (c : Code) (Q : State → Prop) (post : ab_Po) : Prop :=
  ∀ (v : Option Value) (h : ab_M) (H : Heap) (locs : List Loc) (cells slots pc : Nat) (ls : Array Slot), post v h → ab_RT M.2.2.2 v → ab_RI M v pc → ab_w G h s H → va_S (ab_N G) s.heap H locs → cells ≤ R.cells → slots ≤ R.slots →
    W p l e R s m args below meth c H locs cells slots Q (F0 m pc ls (v.map (ab_V G)).toList)
def ab_l (G : ab_G) (ls : Array Slot) (nL : Nat) (L : List (Nat × Value)) : Prop := ls.size = nL ∧ lv_wf ls ∧ ∀ i v, L.lookup i = some v → ls[i]? = some (.val (ab_V G v))
/-- from here the method returns, and then post; at most mc cells of ms slots are made; fr frames and lo words are left -/
def wp (fr lo mc ms : Nat) (M : ab_MT) (pc : Nat) (L : List (Nat × Value)) (st : List Value) (h : ab_M) (post : ab_Po) : Prop :=
  ∀ (G : ab_G) (p : Program) (l : Launch) (e : Env) (R : Room) (s : State) (m : MethodId) (args : Array Value) (below : List Frame) (meth : Method) (c : Code) (Q : State → Prop),
    ab_C fr lo M p R s m args meth c → ab_B G ≤ s.heap.size → ab_H G M p l e R s m args below meth c Q post →
    ∀ (H : Heap) (locs : List Loc) (cells slots : Nat) (ls : Array Slot), ab_w G h s H → va_S (ab_N G) s.heap H locs → cells + mc ≤ R.cells → slots + ms ≤ R.slots → ab_l G ls M.2.2.1 L →
    W p l e R s m args below meth c H locs cells slots Q (F0 m pc ls (st.map (ab_V G)))
theorem ab_V_cat (G : ab_G) (v : Value) : (ab_V G v).category = v.category := by cases v <;> rfl
def ab_dd (G : ab_G) (L : List (Nat × Value)) : List (Nat × Value) := L.filterMap (fun q => (L.lookup q.1).map (fun v => (q.1, ab_V G v)))
theorem ab_lk_mem {L : List (Nat × Value)} {i : Nat} {v : Value} (h : L.lookup i = some v) : (i, v) ∈ L := by
  induction L with
  | nil => simp at h
  | cons q t ih =>
    obtain ⟨j, w⟩ := q
    rw [List.lookup_cons] at h
    by_cases hij : i = j
    · subst hij
      simp at h
      simp [h]
    · have : (i == j) = false := by simpa using hij
      rw [this] at h
      exact List.mem_cons_of_mem _ (ih h)
theorem ab_l_has {G : ab_G} {ls : Array Slot} {nL : Nat} {L : List (Nat × Value)} (h : ab_l G ls nL L) : lv_has ls nL (ab_dd G L) := by
  refine ⟨h.1, h.2.1, fun q hq => ?_⟩
  obtain ⟨a, -, ha⟩ := List.mem_filterMap.mp hq
  cases hv : L.lookup a.1 with
  | none => rw [hv] at ha; cases ha
  | some v =>
    rw [hv] at ha
    simp at ha
    rw [← ha]
    exact h.2.2 _ _ hv
def ab_nl (L : List (Nat × Value)) (i : Nat) : Bool := i == 0 || (match L.lookup (i - 1) with
  | some (.long _) => false
  | some (.double _) => false
  | _ => true)
theorem ab_l_store {G : ab_G} {ls : Array Slot} {nL i : Nat} {L : List (Nat × Value)} {v : Value} (hn : ab_nl L i = true)
    (hl : lv_has ls nL ((i, ab_V G v) :: (ab_dd G L).filter (fun q => !(q.1 == i) && !(q.1 + 1 == i && q.2.category == 2)))) : ab_l G ls nL ((i, v) :: L) := by
  refine ⟨hl.1, hl.2.1, fun j w hj => ?_⟩
  rw [List.lookup_cons] at hj
  by_cases hij : j = i
  · subst hij
    simp at hj
    subst hj
    exact hl.2.2 _ List.mem_cons_self
  · have e : (j == i) = false := by simpa using hij
    rw [e] at hj
    have hj : L.lookup j = some w := hj
    refine hl.2.2 (j, ab_V G w) (List.mem_cons_of_mem _ (List.mem_filter.mpr ⟨List.mem_filterMap.mpr ⟨(j, w), ab_lk_mem hj, by simp [hj]⟩, ?_⟩))
    simp only [e, Bool.not_false, Bool.true_and, Bool.not_eq_true', Bool.and_eq_false_iff]
    by_cases hji : j + 1 = i
    · right
      rw [ab_V_cat]
      subst hji
      unfold ab_nl at hn
      simp only [Nat.add_sub_cancel] at hn
      rw [hj] at hn
      cases w <;> simp_all [Value.category]
    · left
      simpa using hji
def ab_sub (L : List (Nat × Value)) : List (Nat × Value) → Prop
  | [] => True
  | q :: t => L.lookup q.1 = some q.2 ∧ ab_sub L t
theorem ab_sub_mem {L : List (Nat × Value)} : ∀ {L' : List (Nat × Value)}, ab_sub L L' → ∀ q ∈ L', L.lookup q.1 = some q.2
  | [], _, q, hq => by simp at hq
  | a :: t, h, q, hq => by
    rcases List.mem_cons.mp hq with rfl | hq
    · exact h.1
    · exact ab_sub_mem h.2 q hq
section AB1
variable {fr lo mc ms : Nat} {M : ab_MT} {pc : Nat} {L : List (Nat × Value)} {st : List Value} {h : ab_M} {post : ab_Po}
theorem wp_loc {L' : List (Nat × Value)} (hL : ab_sub L L') (kk : wp fr lo mc ms M pc L' st h post) : wp fr lo mc ms M pc L st h post := by
  intro G p l e R s m args below meth c Q C hb hQ H locs cells slots ls hw hS hc hs hl
  refine kk G p l e R s m args below meth c Q C hb hQ H locs cells slots ls hw hS hc hs ⟨hl.1, hl.2.1, fun i v hv => ?_⟩
  exact hl.2.2 i v (ab_sub_mem hL _ (ab_lk_mem hv))
theorem wp_room {mc' ms' : Nat} (h1 : mc' ≤ mc) (h2 : ms' ≤ ms) (kk : wp fr lo mc' ms' M pc L st h post) : wp fr lo mc ms M pc L st h post := by
  intro G p l e R s m args below meth c Q C hb hQ H locs cells slots ls hw hS hc hs hl
  exact kk G p l e R s m args below meth c Q C hb hQ H locs cells slots ls hw hS (by omega) (by omega) hl
theorem wp_post {post' : ab_Po} (hp : ∀ v h', post' v h' → post v h') (kk : wp fr lo mc ms M pc L st h post') : wp fr lo mc ms M pc L st h post := by
  intro G p l e R s m args below meth c Q C hb hQ
  exact kk G p l e R s m args below meth c Q C hb (fun v h' H locs cells slots pc ls h1 => hQ v h' H locs cells slots pc ls (hp v h' h1))
theorem wp_pc {pc' : Nat} (hp : pc' = pc) (kk : wp fr lo mc ms M pc' L st h post) : wp fr lo mc ms M pc L st h post := hp ▸ kk
theorem wp_ret {v : Value} (hd : decode M.2.1 pc = .ok (.ireturn, 1)) {x : Int32} (hv : v = .int x) (hr : ab_RT M.2.2.2 (some (.int x))) (hp : post (some (.int x)) h) : wp fr lo mc ms M pc L [v] h post := by
  intro G p l e R s m args below meth c Q C hb hQ H locs cells slots ls hw hS hc hs hl
  subst hv
  exact hQ (some (.int x)) h H locs cells slots pc ls hp hr hd hw hS (by omega) (by omega)
theorem wp_retv (hd : decode M.2.1 pc = .ok (.return_, 1)) (hr : M.2.2.2 = none) (hp : post none h) : wp fr lo mc ms M pc L [] h post := by
  intro G p l e R s m args below meth c Q C hb hQ H locs cells slots ls hw hS hc hs hl
  exact hQ none h H locs cells slots pc ls hp (by rw [hr]; trivial) hd hw hS (by omega) (by omega)
theorem wp_reta {r : Nat} (hd : decode M.2.1 pc = .ok (.areturn, 1)) (hr : ab_RT M.2.2.2 (some (.ref r))) (hp : post (some (.ref r)) h) : wp fr lo mc ms M pc L [.ref r] h post := by
  intro G p l e R s m args below meth c Q C hb hQ H locs cells slots ls hw hS hc hs hl
  exact hQ (some (.ref r)) h H locs cells slots pc ls hp hr hd hw hS (by omega) (by omega)
theorem wp_retn (hd : decode M.2.1 pc = .ok (.areturn, 1)) (hr : ab_RT M.2.2.2 (some .null)) (hp : post (some .null) h) : wp fr lo mc ms M pc L [.null] h post := by
  intro G p l e R s m args below meth c Q C hb hQ H locs cells slots ls hw hS hc hs hl
  exact hQ (some .null) h H locs cells slots pc ls hp hr hd hw hS (by omega) (by omega)
theorem wp_iconst {n : Int} {v : Int32} (hd : decode M.2.1 pc = .ok (.iconst n, 1)) (hv : Int32.ofInt n = v) (kk : wp fr lo mc ms M (pc + 1) L (.int v :: st) h post) : wp fr lo mc ms M pc L (st) h post := by
  intro G p l e R s m args below meth c Q C hb hQ H locs cells slots ls hw hS hc hs hl
  exact lv_iconst C.1 C.2.1 hd hv (kk G p l e R s m args below meth c Q C hb hQ H locs cells slots ls hw hS hc hs hl)
theorem wp_bipush {n : Int} {v : Int32} (hd : decode M.2.1 pc = .ok (.bipush n, 2)) (hv : (Int8.ofInt n).toInt32 = v) (kk : wp fr lo mc ms M (pc + 2) L (.int v :: st) h post) : wp fr lo mc ms M pc L (st) h post := by
  intro G p l e R s m args below meth c Q C hb hQ H locs cells slots ls hw hS hc hs hl
  exact lv_bipush C.1 C.2.1 hd hv (kk G p l e R s m args below meth c Q C hb hQ H locs cells slots ls hw hS hc hs hl)
theorem wp_sipush {n : Int} {v : Int32} (hd : decode M.2.1 pc = .ok (.sipush n, 3)) (hv : (Int16.ofInt n).toInt32 = v) (kk : wp fr lo mc ms M (pc + 3) L (.int v :: st) h post) : wp fr lo mc ms M pc L (st) h post := by
  intro G p l e R s m args below meth c Q C hb hQ H locs cells slots ls hw hS hc hs hl
  exact lv_sipush C.1 C.2.1 hd hv (kk G p l e R s m args below meth c Q C hb hQ H locs cells slots ls hw hS hc hs hl)
theorem wp_lconst {n : Fin 2} {v : Int64} (hd : decode M.2.1 pc = .ok (.lconst n, 1)) (hv : Int64.ofNat (n : Nat) = v) (kk : wp fr lo mc ms M (pc + 1) L (.long v :: st) h post) : wp fr lo mc ms M pc L (st) h post := by
  intro G p l e R s m args below meth c Q C hb hQ H locs cells slots ls hw hS hc hs hl
  exact lv_lconst C.1 C.2.1 hd hv (kk G p l e R s m args below meth c Q C hb hQ H locs cells slots ls hw hS hc hs hl)
theorem wp_null (hd : decode M.2.1 pc = .ok (.aconst_null, 1)) (kk : wp fr lo mc ms M (pc + 1) L (.null :: st) h post) : wp fr lo mc ms M pc L (st) h post := by
  intro G p l e R s m args below meth c Q C hb hQ H locs cells slots ls hw hS hc hs hl
  exact lv_null C.1 C.2.1 hd (kk G p l e R s m args below meth c Q C hb hQ H locs cells slots ls hw hS hc hs hl)
theorem wp_iadd {x y : Int32} (hd : decode M.2.1 pc = .ok (.iadd, 1)) (kk : wp fr lo mc ms M (pc + 1) L (.int (x + y) :: st) h post) : wp fr lo mc ms M pc L (.int y :: .int x :: st) h post := by
  intro G p l e R s m args below meth c Q C hb hQ H locs cells slots ls hw hS hc hs hl
  exact lv_iadd C.1 C.2.1 hd (kk G p l e R s m args below meth c Q C hb hQ H locs cells slots ls hw hS hc hs hl)
theorem wp_isub {x y : Int32} (hd : decode M.2.1 pc = .ok (.isub, 1)) (kk : wp fr lo mc ms M (pc + 1) L (.int (x - y) :: st) h post) : wp fr lo mc ms M pc L (.int y :: .int x :: st) h post := by
  intro G p l e R s m args below meth c Q C hb hQ H locs cells slots ls hw hS hc hs hl
  exact lv_isub C.1 C.2.1 hd (kk G p l e R s m args below meth c Q C hb hQ H locs cells slots ls hw hS hc hs hl)
theorem wp_imul {x y : Int32} (hd : decode M.2.1 pc = .ok (.imul, 1)) (kk : wp fr lo mc ms M (pc + 1) L (.int (x * y) :: st) h post) : wp fr lo mc ms M pc L (.int y :: .int x :: st) h post := by
  intro G p l e R s m args below meth c Q C hb hQ H locs cells slots ls hw hS hc hs hl
  exact lv_imul C.1 C.2.1 hd (kk G p l e R s m args below meth c Q C hb hQ H locs cells slots ls hw hS hc hs hl)
theorem wp_iand {x y : Int32} (hd : decode M.2.1 pc = .ok (.iand, 1)) (kk : wp fr lo mc ms M (pc + 1) L (.int (x &&& y) :: st) h post) : wp fr lo mc ms M pc L (.int y :: .int x :: st) h post := by
  intro G p l e R s m args below meth c Q C hb hQ H locs cells slots ls hw hS hc hs hl
  exact lv_iand C.1 C.2.1 hd (kk G p l e R s m args below meth c Q C hb hQ H locs cells slots ls hw hS hc hs hl)
theorem wp_idiv {x y : Int32} (hd : decode M.2.1 pc = .ok (.idiv, 1)) (hne : ¬ y = 0) (kk : wp fr lo mc ms M (pc + 1) L (.int (x / y) :: st) h post) : wp fr lo mc ms M pc L (.int y :: .int x :: st) h post := by
  intro G p l e R s m args below meth c Q C hb hQ H locs cells slots ls hw hS hc hs hl
  exact lv_idiv C.1 C.2.1 hd hne (kk G p l e R s m args below meth c Q C hb hQ H locs cells slots ls hw hS hc hs hl)
theorem wp_irem {x y : Int32} (hd : decode M.2.1 pc = .ok (.irem, 1)) (hne : ¬ y = 0) (kk : wp fr lo mc ms M (pc + 1) L (.int (x - x / y * y) :: st) h post) : wp fr lo mc ms M pc L (.int y :: .int x :: st) h post := by
  intro G p l e R s m args below meth c Q C hb hQ H locs cells slots ls hw hS hc hs hl
  exact lv_irem C.1 C.2.1 hd hne (kk G p l e R s m args below meth c Q C hb hQ H locs cells slots ls hw hS hc hs hl)
theorem wp_ishr {x y : Int32} (hd : decode M.2.1 pc = .ok (.ishr, 1)) (kk : wp fr lo mc ms M (pc + 1) L (.int (x >>> (y &&& 31)) :: st) h post) : wp fr lo mc ms M pc L (.int y :: .int x :: st) h post := by
  intro G p l e R s m args below meth c Q C hb hQ H locs cells slots ls hw hS hc hs hl
  exact lv_ishr C.1 C.2.1 hd (kk G p l e R s m args below meth c Q C hb hQ H locs cells slots ls hw hS hc hs hl)
theorem wp_i2l {x : Int32} (hd : decode M.2.1 pc = .ok (.i2l, 1)) (kk : wp fr lo mc ms M (pc + 1) L (.long x.toInt64 :: st) h post) : wp fr lo mc ms M pc L (.int x :: st) h post := by
  intro G p l e R s m args below meth c Q C hb hQ H locs cells slots ls hw hS hc hs hl
  exact lv_i2l C.1 C.2.1 hd rfl (kk G p l e R s m args below meth c Q C hb hQ H locs cells slots ls hw hS hc hs hl)
theorem wp_lcmp {x y : Int64} (hd : decode M.2.1 pc = .ok (.lcmp, 1)) (kk : wp fr lo mc ms M (pc + 1) L (.int (lg_cmp x y) :: st) h post) : wp fr lo mc ms M pc L (.long y :: .long x :: st) h post := by
  intro G p l e R s m args below meth c Q C hb hQ H locs cells slots ls hw hS hc hs hl
  exact W.lcmp C.1 C.2.1 hd (kk G p l e R s m args below meth c Q C hb hQ H locs cells slots ls hw hS hc hs hl)
theorem wp_dup {v : Value} (hd : decode M.2.1 pc = .ok (.dup, 1)) (hc1 : v.category = 1) (kk : wp fr lo mc ms M (pc + 1) L (v :: v :: st) h post) : wp fr lo mc ms M pc L (v :: st) h post := by
  intro G p l e R s m args below meth c Q C hb hQ H locs cells slots ls hw hS hc hs hl
  exact lv_dup C.1 C.2.1 hd (by rw [ab_V_cat]; exact hc1) (kk G p l e R s m args below meth c Q C hb hQ H locs cells slots ls hw hS hc hs hl)
theorem wp_pop {v : Value} (hd : decode M.2.1 pc = .ok (.pop, 1)) (hc1 : v.category = 1) (kk : wp fr lo mc ms M (pc + 1) L st h post) : wp fr lo mc ms M pc L (v :: st) h post := by
  intro G p l e R s m args below meth c Q C hb hQ H locs cells slots ls hw hS hc hs hl
  exact lv_pop C.1 C.2.1 hd (by rw [ab_V_cat]; exact hc1) (kk G p l e R s m args below meth c Q C hb hQ H locs cells slots ls hw hS hc hs hl)
theorem wp_dup_x1 {v w : Value} (hd : decode M.2.1 pc = .ok (.dup_x1, 1)) (hc1 : v.category = 1) (hc2 : w.category = 1) (kk : wp fr lo mc ms M (pc + 1) L (v :: w :: v :: st) h post) : wp fr lo mc ms M pc L (v :: w :: st) h post := by
  intro G p l e R s m args below meth c Q C hb hQ H locs cells slots ls hw hS hc hs hl
  exact lv_dup_x1 C.1 C.2.1 hd (by rw [ab_V_cat]; exact hc1) (by rw [ab_V_cat]; exact hc2) (kk G p l e R s m args below meth c Q C hb hQ H locs cells slots ls hw hS hc hs hl)
theorem wp_iload_n {k : Fin 4} {x : Int32} (hd : decode M.2.1 pc = .ok (.iload_n k, 1)) (hx : L.lookup (k : Nat) = some (.int x)) (kk : wp fr lo mc ms M (pc + 1) L (.int x :: st) h post) : wp fr lo mc ms M pc L st h post := by
  intro G p l e R s m args below meth c Q C hb hQ H locs cells slots ls hw hS hc hs hl
  exact lv_iload_n C.1 C.2.1 hd rfl (hl.2.2 _ _ hx) (kk G p l e R s m args below meth c Q C hb hQ H locs cells slots ls hw hS hc hs hl)
theorem wp_iload {i : Nat} {x : Int32} (hd : decode M.2.1 pc = .ok (.iload i, 2)) (hx : L.lookup i = some (.int x)) (kk : wp fr lo mc ms M (pc + 2) L (.int x :: st) h post) : wp fr lo mc ms M pc L st h post := by
  intro G p l e R s m args below meth c Q C hb hQ H locs cells slots ls hw hS hc hs hl
  exact lv_iload C.1 C.2.1 hd (hl.2.2 _ _ hx) (kk G p l e R s m args below meth c Q C hb hQ H locs cells slots ls hw hS hc hs hl)
theorem wp_aload_n {k : Fin 4} {x : Nat} (hd : decode M.2.1 pc = .ok (.aload_n k, 1)) (hx : L.lookup (k : Nat) = some (.ref x)) (kk : wp fr lo mc ms M (pc + 1) L (.ref x :: st) h post) : wp fr lo mc ms M pc L st h post := by
  intro G p l e R s m args below meth c Q C hb hQ H locs cells slots ls hw hS hc hs hl
  exact lv_aload_n C.1 C.2.1 hd rfl (hl.2.2 _ _ hx) (kk G p l e R s m args below meth c Q C hb hQ H locs cells slots ls hw hS hc hs hl)
theorem wp_aload {i : Nat} {x : Nat} (hd : decode M.2.1 pc = .ok (.aload i, 2)) (hx : L.lookup i = some (.ref x)) (kk : wp fr lo mc ms M (pc + 2) L (.ref x :: st) h post) : wp fr lo mc ms M pc L st h post := by
  intro G p l e R s m args below meth c Q C hb hQ H locs cells slots ls hw hS hc hs hl
  exact lv_aload C.1 C.2.1 hd (hl.2.2 _ _ hx) (kk G p l e R s m args below meth c Q C hb hQ H locs cells slots ls hw hS hc hs hl)
theorem wp_lload_n {k : Fin 4} {x : Int64} (hd : decode M.2.1 pc = .ok (.lload_n k, 1)) (hx : L.lookup (k : Nat) = some (.long x)) (kk : wp fr lo mc ms M (pc + 1) L (.long x :: st) h post) : wp fr lo mc ms M pc L st h post := by
  intro G p l e R s m args below meth c Q C hb hQ H locs cells slots ls hw hS hc hs hl
  exact lv_lload_n C.1 C.2.1 hd rfl (hl.2.2 _ _ hx) (kk G p l e R s m args below meth c Q C hb hQ H locs cells slots ls hw hS hc hs hl)
theorem wp_lload {i : Nat} {x : Int64} (hd : decode M.2.1 pc = .ok (.lload i, 2)) (hx : L.lookup i = some (.long x)) (kk : wp fr lo mc ms M (pc + 2) L (.long x :: st) h post) : wp fr lo mc ms M pc L st h post := by
  intro G p l e R s m args below meth c Q C hb hQ H locs cells slots ls hw hS hc hs hl
  exact lv_lload C.1 C.2.1 hd (hl.2.2 _ _ hx) (kk G p l e R s m args below meth c Q C hb hQ H locs cells slots ls hw hS hc hs hl)
theorem wp_aload_nN {k : Fin 4} (hd : decode M.2.1 pc = .ok (.aload_n k, 1)) (hx : L.lookup (k : Nat) = some .null) (kk : wp fr lo mc ms M (pc + 1) L (.null :: st) h post) : wp fr lo mc ms M pc L st h post := by
  intro G p l e R s m args below meth c Q C hb hQ H locs cells slots ls hw hS hc hs hl
  exact lv_aload_nN C.1 C.2.1 hd rfl (hl.2.2 _ _ hx) (kk G p l e R s m args below meth c Q C hb hQ H locs cells slots ls hw hS hc hs hl)
theorem wp_aloadN {i : Nat} (hd : decode M.2.1 pc = .ok (.aload i, 2)) (hx : L.lookup i = some .null) (kk : wp fr lo mc ms M (pc + 2) L (.null :: st) h post) : wp fr lo mc ms M pc L st h post := by
  intro G p l e R s m args below meth c Q C hb hQ H locs cells slots ls hw hS hc hs hl
  exact lv_aloadN C.1 C.2.1 hd (hl.2.2 _ _ hx) (kk G p l e R s m args below meth c Q C hb hQ H locs cells slots ls hw hS hc hs hl)
theorem wp_istore_n {k : Fin 4} {x : Int32} (hd : decode M.2.1 pc = .ok (.istore_n k, 1)) (hi : (k : Nat) < M.2.2.1) (hn : ab_nl L (k : Nat) = true) (kk : wp fr lo mc ms M (pc + 1) (((k : Nat), .int x) :: L) st h post) : wp fr lo mc ms M pc L (.int x :: st) h post := by
  intro G p l e R s m args below meth c Q C hb hQ H locs cells slots ls hw hS hc hs hl
  exact lv_istore_n C.1 C.2.1 hd rfl (ab_l_has hl) hi rfl (fun ls' hl' => kk G p l e R s m args below meth c Q C hb hQ H locs cells slots ls' hw hS hc hs (ab_l_store hn hl'))
theorem wp_istore {i : Nat} {x : Int32} (hd : decode M.2.1 pc = .ok (.istore i, 2)) (hi : i < M.2.2.1) (hn : ab_nl L i = true) (kk : wp fr lo mc ms M (pc + 2) ((i, .int x) :: L) st h post) : wp fr lo mc ms M pc L (.int x :: st) h post := by
  intro G p l e R s m args below meth c Q C hb hQ H locs cells slots ls hw hS hc hs hl
  exact lv_istore C.1 C.2.1 hd (ab_l_has hl) hi rfl (fun ls' hl' => kk G p l e R s m args below meth c Q C hb hQ H locs cells slots ls' hw hS hc hs (ab_l_store hn hl'))
theorem wp_astore_n {k : Fin 4} {x : Nat} (hd : decode M.2.1 pc = .ok (.astore_n k, 1)) (hi : (k : Nat) < M.2.2.1) (hn : ab_nl L (k : Nat) = true) (kk : wp fr lo mc ms M (pc + 1) (((k : Nat), .ref x) :: L) st h post) : wp fr lo mc ms M pc L (.ref x :: st) h post := by
  intro G p l e R s m args below meth c Q C hb hQ H locs cells slots ls hw hS hc hs hl
  exact lv_astore_n C.1 C.2.1 hd rfl (ab_l_has hl) hi rfl (fun ls' hl' => kk G p l e R s m args below meth c Q C hb hQ H locs cells slots ls' hw hS hc hs (ab_l_store hn hl'))
theorem wp_astore {i : Nat} {x : Nat} (hd : decode M.2.1 pc = .ok (.astore i, 2)) (hi : i < M.2.2.1) (hn : ab_nl L i = true) (kk : wp fr lo mc ms M (pc + 2) ((i, .ref x) :: L) st h post) : wp fr lo mc ms M pc L (.ref x :: st) h post := by
  intro G p l e R s m args below meth c Q C hb hQ H locs cells slots ls hw hS hc hs hl
  exact lv_astore C.1 C.2.1 hd (ab_l_has hl) hi rfl (fun ls' hl' => kk G p l e R s m args below meth c Q C hb hQ H locs cells slots ls' hw hS hc hs (ab_l_store hn hl'))
theorem wp_astore_nN {k : Fin 4} (hd : decode M.2.1 pc = .ok (.astore_n k, 1)) (hi : (k : Nat) < M.2.2.1) (hn : ab_nl L (k : Nat) = true) (kk : wp fr lo mc ms M (pc + 1) (((k : Nat), .null) :: L) st h post) : wp fr lo mc ms M pc L (.null :: st) h post := by
  intro G p l e R s m args below meth c Q C hb hQ H locs cells slots ls hw hS hc hs hl
  exact lv_astore_nN C.1 C.2.1 hd rfl (ab_l_has hl) hi rfl (fun ls' hl' => kk G p l e R s m args below meth c Q C hb hQ H locs cells slots ls' hw hS hc hs (ab_l_store (v := .null) hn hl'))
theorem wp_astoreN {i : Nat} (hd : decode M.2.1 pc = .ok (.astore i, 2)) (hi : i < M.2.2.1) (hn : ab_nl L i = true) (kk : wp fr lo mc ms M (pc + 2) ((i, .null) :: L) st h post) : wp fr lo mc ms M pc L (.null :: st) h post := by
  intro G p l e R s m args below meth c Q C hb hQ H locs cells slots ls hw hS hc hs hl
  exact lv_astoreN C.1 C.2.1 hd (ab_l_has hl) hi rfl (fun ls' hl' => kk G p l e R s m args below meth c Q C hb hQ H locs cells slots ls' hw hS hc hs (ab_l_store (v := .null) hn hl'))
theorem wp_iinc {i : Nat} {n : Int} {x : Int32} (hd : decode M.2.1 pc = .ok (.iinc i n, 3)) (hx : L.lookup i = some (.int x)) (hi : i < M.2.2.1) (hn : ab_nl L i = true) (kk : wp fr lo mc ms M (pc + 3) ((i, .int (x + Int32.ofInt n)) :: L) st h post) : wp fr lo mc ms M pc L st h post := by
  intro G p l e R s m args below meth c Q C hb hQ H locs cells slots ls hw hS hc hs hl
  have hh := ab_l_has hl
  have h2 : lv_has ls M.2.2.1 ((i, .int x) :: ab_dd G L) := ⟨hh.1, hh.2.1, fun q hq => by
    rcases List.mem_cons.mp hq with rfl | hq
    · exact hl.2.2 _ _ hx
    · exact hh.2.2 q hq⟩
  refine lv_iinc C.1 C.2.1 hd h2 (k := 0) rfl rfl hi rfl (fun ls' hl' => kk G p l e R s m args below meth c Q C hb hQ H locs cells slots ls' hw hS hc hs (ab_l_store (v := .int (x + Int32.ofInt n)) hn ?_))
  refine ⟨hl'.1, hl'.2.1, fun q hq => hl'.2.2 q ?_⟩
  rcases List.mem_cons.mp hq with rfl | hq
  · exact List.mem_cons_self
  · refine List.mem_cons_of_mem _ ?_
    rw [List.filter_cons]
    simpa using hq
theorem ab_eqI (x y : Int32) : x = y ↔ x.toInt = y.toInt := Int32.toInt_inj.symm
theorem wp_icmp_eq {x y : Int32} {off : Int} {tgt : Nat} (hd : decode M.2.1 pc = .ok (.if_icmp .eq off, 3)) (ht : (pc : Int) + off = (tgt : Int)) (kt : x.toInt = y.toInt → wp fr lo mc ms M tgt L st h post) (kf : x.toInt ≠ y.toInt → wp fr lo mc ms M (pc + 3) L st h post) : wp fr lo mc ms M pc L (.int y :: .int x :: st) h post := by
  intro G p l e R s m args below meth c Q C hb hQ H locs cells slots ls hw hS hc hs hl
  exact lv_icmp_eq C.1 C.2.1 hd ht (fun q => kt ((ab_eqI _ _).mp q) G p l e R s m args below meth c Q C hb hQ H locs cells slots ls hw hS hc hs hl) (fun q => kf ((fun z => q ((ab_eqI _ _).mpr z))) G p l e R s m args below meth c Q C hb hQ H locs cells slots ls hw hS hc hs hl)
theorem wp_if_eq {x : Int32} {off : Int} {tgt : Nat} (hd : decode M.2.1 pc = .ok (.ifCond .eq off, 3)) (ht : (pc : Int) + off = (tgt : Int)) (kt : x.toInt = 0 → wp fr lo mc ms M tgt L st h post) (kf : x.toInt ≠ 0 → wp fr lo mc ms M (pc + 3) L st h post) : wp fr lo mc ms M pc L (.int x :: st) h post := by
  intro G p l e R s m args below meth c Q C hb hQ H locs cells slots ls hw hS hc hs hl
  exact lv_if_eq C.1 C.2.1 hd ht (fun q => kt (by first | exact (ab_eqI _ _).mp q | (simpa using (ab_eqI _ _).mp q)) G p l e R s m args below meth c Q C hb hQ H locs cells slots ls hw hS hc hs hl) (fun q => kf (by first | exact (fun z => q ((ab_eqI _ _).mpr z)) | (simpa using (fun z => q ((ab_eqI _ _).mpr z)))) G p l e R s m args below meth c Q C hb hQ H locs cells slots ls hw hS hc hs hl)
theorem wp_icmp_ne {x y : Int32} {off : Int} {tgt : Nat} (hd : decode M.2.1 pc = .ok (.if_icmp .ne off, 3)) (ht : (pc : Int) + off = (tgt : Int)) (kt : x.toInt ≠ y.toInt → wp fr lo mc ms M tgt L st h post) (kf : x.toInt = y.toInt → wp fr lo mc ms M (pc + 3) L st h post) : wp fr lo mc ms M pc L (.int y :: .int x :: st) h post := by
  intro G p l e R s m args below meth c Q C hb hQ H locs cells slots ls hw hS hc hs hl
  exact lv_icmp_ne C.1 C.2.1 hd ht (fun q => kt ((fun z => q ((ab_eqI _ _).mpr z))) G p l e R s m args below meth c Q C hb hQ H locs cells slots ls hw hS hc hs hl) (fun q => kf ((ab_eqI _ _).mp q) G p l e R s m args below meth c Q C hb hQ H locs cells slots ls hw hS hc hs hl)
theorem wp_if_ne {x : Int32} {off : Int} {tgt : Nat} (hd : decode M.2.1 pc = .ok (.ifCond .ne off, 3)) (ht : (pc : Int) + off = (tgt : Int)) (kt : x.toInt ≠ 0 → wp fr lo mc ms M tgt L st h post) (kf : x.toInt = 0 → wp fr lo mc ms M (pc + 3) L st h post) : wp fr lo mc ms M pc L (.int x :: st) h post := by
  intro G p l e R s m args below meth c Q C hb hQ H locs cells slots ls hw hS hc hs hl
  exact lv_if_ne C.1 C.2.1 hd ht (fun q => kt (by first | exact (fun z => q ((ab_eqI _ _).mpr z)) | (simpa using (fun z => q ((ab_eqI _ _).mpr z)))) G p l e R s m args below meth c Q C hb hQ H locs cells slots ls hw hS hc hs hl) (fun q => kf (by first | exact (ab_eqI _ _).mp q | (simpa using (ab_eqI _ _).mp q)) G p l e R s m args below meth c Q C hb hQ H locs cells slots ls hw hS hc hs hl)
theorem wp_icmp_lt {x y : Int32} {off : Int} {tgt : Nat} (hd : decode M.2.1 pc = .ok (.if_icmp .lt off, 3)) (ht : (pc : Int) + off = (tgt : Int)) (kt : x.toInt < y.toInt → wp fr lo mc ms M tgt L st h post) (kf : y.toInt ≤ x.toInt → wp fr lo mc ms M (pc + 3) L st h post) : wp fr lo mc ms M pc L (.int y :: .int x :: st) h post := by
  intro G p l e R s m args below meth c Q C hb hQ H locs cells slots ls hw hS hc hs hl
  exact lv_icmp_lt C.1 C.2.1 hd ht (fun q => kt (Int32.lt_iff_toInt_lt.mp q) G p l e R s m args below meth c Q C hb hQ H locs cells slots ls hw hS hc hs hl) (fun q => kf (Int.not_lt.mp (fun z => q (Int32.lt_iff_toInt_lt.mpr z))) G p l e R s m args below meth c Q C hb hQ H locs cells slots ls hw hS hc hs hl)
theorem wp_if_lt {x : Int32} {off : Int} {tgt : Nat} (hd : decode M.2.1 pc = .ok (.ifCond .lt off, 3)) (ht : (pc : Int) + off = (tgt : Int)) (kt : x.toInt < 0 → wp fr lo mc ms M tgt L st h post) (kf : 0 ≤ x.toInt → wp fr lo mc ms M (pc + 3) L st h post) : wp fr lo mc ms M pc L (.int x :: st) h post := by
  intro G p l e R s m args below meth c Q C hb hQ H locs cells slots ls hw hS hc hs hl
  exact lv_if_lt C.1 C.2.1 hd ht (fun q => kt (by first | exact Int32.lt_iff_toInt_lt.mp q | (simpa using Int32.lt_iff_toInt_lt.mp q)) G p l e R s m args below meth c Q C hb hQ H locs cells slots ls hw hS hc hs hl) (fun q => kf (by first | exact Int.not_lt.mp (fun z => q (Int32.lt_iff_toInt_lt.mpr z)) | (simpa using Int.not_lt.mp (fun z => q (Int32.lt_iff_toInt_lt.mpr z)))) G p l e R s m args below meth c Q C hb hQ H locs cells slots ls hw hS hc hs hl)
theorem wp_icmp_ge {x y : Int32} {off : Int} {tgt : Nat} (hd : decode M.2.1 pc = .ok (.if_icmp .ge off, 3)) (ht : (pc : Int) + off = (tgt : Int)) (kt : y.toInt ≤ x.toInt → wp fr lo mc ms M tgt L st h post) (kf : x.toInt < y.toInt → wp fr lo mc ms M (pc + 3) L st h post) : wp fr lo mc ms M pc L (.int y :: .int x :: st) h post := by
  intro G p l e R s m args below meth c Q C hb hQ H locs cells slots ls hw hS hc hs hl
  exact lv_icmp_ge C.1 C.2.1 hd ht (fun q => kt (Int32.le_iff_toInt_le.mp q) G p l e R s m args below meth c Q C hb hQ H locs cells slots ls hw hS hc hs hl) (fun q => kf (Int.not_le.mp (fun z => q (Int32.le_iff_toInt_le.mpr z))) G p l e R s m args below meth c Q C hb hQ H locs cells slots ls hw hS hc hs hl)
theorem wp_if_ge {x : Int32} {off : Int} {tgt : Nat} (hd : decode M.2.1 pc = .ok (.ifCond .ge off, 3)) (ht : (pc : Int) + off = (tgt : Int)) (kt : 0 ≤ x.toInt → wp fr lo mc ms M tgt L st h post) (kf : x.toInt < 0 → wp fr lo mc ms M (pc + 3) L st h post) : wp fr lo mc ms M pc L (.int x :: st) h post := by
  intro G p l e R s m args below meth c Q C hb hQ H locs cells slots ls hw hS hc hs hl
  exact lv_if_ge C.1 C.2.1 hd ht (fun q => kt (by first | exact Int32.le_iff_toInt_le.mp q | (simpa using Int32.le_iff_toInt_le.mp q)) G p l e R s m args below meth c Q C hb hQ H locs cells slots ls hw hS hc hs hl) (fun q => kf (by first | exact Int.not_le.mp (fun z => q (Int32.le_iff_toInt_le.mpr z)) | (simpa using Int.not_le.mp (fun z => q (Int32.le_iff_toInt_le.mpr z)))) G p l e R s m args below meth c Q C hb hQ H locs cells slots ls hw hS hc hs hl)
theorem wp_icmp_gt {x y : Int32} {off : Int} {tgt : Nat} (hd : decode M.2.1 pc = .ok (.if_icmp .gt off, 3)) (ht : (pc : Int) + off = (tgt : Int)) (kt : y.toInt < x.toInt → wp fr lo mc ms M tgt L st h post) (kf : x.toInt ≤ y.toInt → wp fr lo mc ms M (pc + 3) L st h post) : wp fr lo mc ms M pc L (.int y :: .int x :: st) h post := by
  intro G p l e R s m args below meth c Q C hb hQ H locs cells slots ls hw hS hc hs hl
  exact lv_icmp_gt C.1 C.2.1 hd ht (fun q => kt (Int32.lt_iff_toInt_lt.mp q) G p l e R s m args below meth c Q C hb hQ H locs cells slots ls hw hS hc hs hl) (fun q => kf (Int.not_lt.mp (fun z => q (Int32.lt_iff_toInt_lt.mpr z))) G p l e R s m args below meth c Q C hb hQ H locs cells slots ls hw hS hc hs hl)
theorem wp_if_gt {x : Int32} {off : Int} {tgt : Nat} (hd : decode M.2.1 pc = .ok (.ifCond .gt off, 3)) (ht : (pc : Int) + off = (tgt : Int)) (kt : 0 < x.toInt → wp fr lo mc ms M tgt L st h post) (kf : x.toInt ≤ 0 → wp fr lo mc ms M (pc + 3) L st h post) : wp fr lo mc ms M pc L (.int x :: st) h post := by
  intro G p l e R s m args below meth c Q C hb hQ H locs cells slots ls hw hS hc hs hl
  exact lv_if_gt C.1 C.2.1 hd ht (fun q => kt (by first | exact Int32.lt_iff_toInt_lt.mp q | (simpa using Int32.lt_iff_toInt_lt.mp q)) G p l e R s m args below meth c Q C hb hQ H locs cells slots ls hw hS hc hs hl) (fun q => kf (by first | exact Int.not_lt.mp (fun z => q (Int32.lt_iff_toInt_lt.mpr z)) | (simpa using Int.not_lt.mp (fun z => q (Int32.lt_iff_toInt_lt.mpr z)))) G p l e R s m args below meth c Q C hb hQ H locs cells slots ls hw hS hc hs hl)
theorem wp_icmp_le {x y : Int32} {off : Int} {tgt : Nat} (hd : decode M.2.1 pc = .ok (.if_icmp .le off, 3)) (ht : (pc : Int) + off = (tgt : Int)) (kt : x.toInt ≤ y.toInt → wp fr lo mc ms M tgt L st h post) (kf : y.toInt < x.toInt → wp fr lo mc ms M (pc + 3) L st h post) : wp fr lo mc ms M pc L (.int y :: .int x :: st) h post := by
  intro G p l e R s m args below meth c Q C hb hQ H locs cells slots ls hw hS hc hs hl
  exact lv_icmp_le C.1 C.2.1 hd ht (fun q => kt (Int32.le_iff_toInt_le.mp q) G p l e R s m args below meth c Q C hb hQ H locs cells slots ls hw hS hc hs hl) (fun q => kf (Int.not_le.mp (fun z => q (Int32.le_iff_toInt_le.mpr z))) G p l e R s m args below meth c Q C hb hQ H locs cells slots ls hw hS hc hs hl)
theorem wp_if_le {x : Int32} {off : Int} {tgt : Nat} (hd : decode M.2.1 pc = .ok (.ifCond .le off, 3)) (ht : (pc : Int) + off = (tgt : Int)) (kt : x.toInt ≤ 0 → wp fr lo mc ms M tgt L st h post) (kf : 0 < x.toInt → wp fr lo mc ms M (pc + 3) L st h post) : wp fr lo mc ms M pc L (.int x :: st) h post := by
  intro G p l e R s m args below meth c Q C hb hQ H locs cells slots ls hw hS hc hs hl
  exact lv_if_le C.1 C.2.1 hd ht (fun q => kt (by first | exact Int32.le_iff_toInt_le.mp q | (simpa using Int32.le_iff_toInt_le.mp q)) G p l e R s m args below meth c Q C hb hQ H locs cells slots ls hw hS hc hs hl) (fun q => kf (by first | exact Int.not_le.mp (fun z => q (Int32.le_iff_toInt_le.mpr z)) | (simpa using Int.not_le.mp (fun z => q (Int32.le_iff_toInt_le.mpr z)))) G p l e R s m args below meth c Q C hb hQ H locs cells slots ls hw hS hc hs hl)
theorem wp_goto {off : Int} {tgt : Nat} (hd : decode M.2.1 pc = .ok (.goto off, 3)) (ht : (pc : Int) + off = (tgt : Int)) (kk : wp fr lo mc ms M tgt L st h post) : wp fr lo mc ms M pc L st h post := by
  intro G p l e R s m args below meth c Q C hb hQ H locs cells slots ls hw hS hc hs hl
  exact lv_goto C.1 C.2.1 hd ht (kk G p l e R s m args below meth c Q C hb hQ H locs cells slots ls hw hS hc hs hl)
theorem wp_ifnull_r {x : Nat} {off : Int} (hd : decode M.2.1 pc = .ok (.ifnull off, 3)) (kk : wp fr lo mc ms M (pc + 3) L st h post) : wp fr lo mc ms M pc L (.ref x :: st) h post := by
  intro G p l e R s m args below meth c Q C hb hQ H locs cells slots ls hw hS hc hs hl
  exact lv_ifnull C.1 C.2.1 hd (kk G p l e R s m args below meth c Q C hb hQ H locs cells slots ls hw hS hc hs hl)
theorem wp_ifnonnull_r {x : Nat} {off : Int} {tgt : Nat} (hd : decode M.2.1 pc = .ok (.ifnonnull off, 3)) (ht : (pc : Int) + off = (tgt : Int)) (kk : wp fr lo mc ms M tgt L st h post) : wp fr lo mc ms M pc L (.ref x :: st) h post := by
  intro G p l e R s m args below meth c Q C hb hQ H locs cells slots ls hw hS hc hs hl
  exact lv_ifnonnull C.1 C.2.1 hd ht (kk G p l e R s m args below meth c Q C hb hQ H locs cells slots ls hw hS hc hs hl)
theorem wp_ifnull_n {off : Int} {tgt : Nat} (hd : decode M.2.1 pc = .ok (.ifnull off, 3)) (ht : (pc : Int) + off = (tgt : Int)) (kk : wp fr lo mc ms M tgt L st h post) : wp fr lo mc ms M pc L (.null :: st) h post := by
  intro G p l e R s m args below meth c Q C hb hQ H locs cells slots ls hw hS hc hs hl
  exact lv_ifnullN C.1 C.2.1 hd ht (kk G p l e R s m args below meth c Q C hb hQ H locs cells slots ls hw hS hc hs hl)
theorem wp_ifnonnull_n {off : Int} (hd : decode M.2.1 pc = .ok (.ifnonnull off, 3)) (kk : wp fr lo mc ms M (pc + 3) L st h post) : wp fr lo mc ms M pc L (.null :: st) h post := by
  intro G p l e R s m args below meth c Q C hb hQ H locs cells slots ls hw hS hc hs hl
  exact lv_ifnonnullN C.1 C.2.1 hd (kk G p l e R s m args below meth c Q C hb hQ H locs cells slots ls hw hS hc hs hl)
theorem wp_tableIn {dflt lo' hi : Int} {offs : Array Int} {len : Nat} {x : Int32} {off : Int} {tgt : Nat} (hd : decode M.2.1 pc = .ok (.tableswitch dflt lo' hi offs, len)) (h1 : lo' ≤ x.toInt) (h2 : x.toInt ≤ hi) (ho : offs[(x.toInt - lo').toNat]? = some off) (ht : (pc : Int) + off = (tgt : Int)) (kk : wp fr lo mc ms M tgt L st h post) : wp fr lo mc ms M pc L (.int x :: st) h post := by
  intro G p l e R s m args below meth c Q C hb hQ H locs cells slots ls hw hS hc hs hl
  exact lv_tableIn C.1 C.2.1 hd (by omega) (by omega) ho ht (kk G p l e R s m args below meth c Q C hb hQ H locs cells slots ls hw hS hc hs hl)
theorem wp_tableOut {dflt lo' hi : Int} {offs : Array Int} {len : Nat} {x : Int32} {tgt : Nat} (hd : decode M.2.1 pc = .ok (.tableswitch dflt lo' hi offs, len)) (h1 : x.toInt < lo' ∨ hi < x.toInt) (ht : (pc : Int) + dflt = (tgt : Int)) (kk : wp fr lo mc ms M tgt L st h post) : wp fr lo mc ms M pc L (.int x :: st) h post := by
  intro G p l e R s m args below meth c Q C hb hQ H locs cells slots ls hw hS hc hs hl
  exact lv_tableOut C.1 C.2.1 hd h1 ht (kk G p l e R s m args below meth c Q C hb hQ H locs cells slots ls hw hS hc hs hl)
theorem wp_ldc {idx : Nat} {v : Int32} (hd : decode M.2.1 pc = .ok (.ldc idx, 2)) (hv : Cond.constant M.1.cls idx v ∈ lw_g) (kk : wp fr lo mc ms M (pc + 2) L (.int v :: st) h post) : wp fr lo mc ms M pc L st h post := by
  intro G p l e R s m args below meth c Q C hb hQ H locs cells slots ls hw hS hc hs hl
  obtain ⟨c1, c2, c3, c4, c5, c6, c7, c8, c9, c10⟩ := id C
  exact lv_ldc c1 c2 c7 (c8 _ hv) hd (kk G p l e R s m args below meth c Q C hb hQ H locs cells slots ls hw hS hc hs hl)
theorem wp_ldc2 {idx : Nat} {v : Int64} (hd : decode M.2.1 pc = .ok (.ldc2_w idx, 3)) (hv : Cond.constantLong M.1.cls idx v ∈ lw_g) (kk : wp fr lo mc ms M (pc + 3) L (.long v :: st) h post) : wp fr lo mc ms M pc L st h post := by
  intro G p l e R s m args below meth c Q C hb hQ H locs cells slots ls hw hS hc hs hl
  obtain ⟨c1, c2, c3, c4, c5, c6, c7, c8, c9, c10⟩ := id C
  exact lv_ldc2 c1 c2 c7 (c8 _ hv) hd (kk G p l e R s m args below meth c Q C hb hQ H locs cells slots ls hw hS hc hs hl)
end AB1
