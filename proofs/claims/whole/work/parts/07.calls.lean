/-! CALLS -/
def ab_Q (G : ab_G) (post : ab_Po) : Array Value → State → Outcome → State → Prop := fun _ s oc t => ∃ (v : Option Value) (h : ab_M), oc = .returned (v.map (ab_V G)) ∧ post v h ∧ ab_v G h t t.heap ∧ va_F (ab_N G) s t
/-- a method that can be called: its words are in the tables -/
def ab_MK (K : ab_MT) (a : Nat) : Prop := Cond.code K.1 K.2.1 K.2.2.1 K.2.2.2 ∈ lw_g ∧ Cond.initialized K.1.cls ∈ lw_g ∧ plainName K.1.cls = true ∧ K.1.cls ≠ "java/lang/invoke/MethodHandle" ∧ K.1.cls ≠ "java/lang/invoke/VarHandle" ∧ (parseMethodDescriptor K.1.desc).map (fun d => d.parameters.length) = some a
theorem ab_args (G : ab_G) : ∀ (as : List Value) (i : Nat), lv_args i (as.map (ab_V G)) = (lv_args i as).map (fun q => (q.1, ab_V G q.2))
  | [], _ => rfl
  | v :: t, i => by
    show (i, ab_V G v) :: lv_args (if (ab_V G v).category = 2 then i + 2 else i + 1) (t.map (ab_V G)) = _
    rw [ab_V_cat, ab_args G t]
    rfl
theorem ab_args_lk (G : ab_G) {ls : Array Slot} {nL : Nat} {as : List Value} (h : lv_has ls nL (lv_args 0 (as.map (ab_V G)))) : ab_l G ls nL (lv_args 0 as) := by
  rw [ab_args] at h
  exact ⟨h.1, h.2.1, fun i v hv => h.2.2 (i, ab_V G v) (List.mem_map.mpr ⟨(i, v), ab_lk_mem hv, rfl⟩)⟩
/-- the contract of a method at one heap and one list of arguments -/
theorem ab_met {K : ab_MT} {a fr lo mc ms : Nat} {h : ab_M} {as : List Value} {post : ab_Po} (hK : ab_MK K a) (hsz : (lg_sl as).length ≤ K.2.2.1) (kk : wp fr lo mc ms K 0 (lv_args 0 as) [] h post) (l : Launch) (G : ab_G) :
    Met l K.1 (Cond.code K.1 K.2.1 K.2.2.1 K.2.2.2 :: lw_g) { frames := fr, cells := mc, slots := ms, locals := lo } (va_Pc (as.map (ab_V G)) (fun U => ab_w G h U U.heap)) (ab_Q G post) mc ms (ab_N G) := by
  refine Met.ofW (cc := K.2.1) (maxL := K.2.2.1) (ret := K.2.2.2) hK.2.2.1 rfl ?_
  intro p e s m args below meth c s₁ B hml hv
  obtain ⟨rfl, hw⟩ := hv
  have hts := atoms_spec (ws := Cond.code K.1 K.2.1 K.2.2.1 K.2.2.2 :: lw_g) B.pre
  have hnm := (name_of_methodNamed B.named B.method).1
  have hlk := B.notSynchronized
  have C : ab_C fr lo K p { frames := fr, cells := mc, slots := ms, locals := lo } s m (as.map (ab_V G)).toArray meth c := ⟨B.exec, B.bytes, hml, B.returns, hlk, hnm, findClass_of_methodNamed B.named, fun w hw => hts w (List.mem_cons_of_mem _ hw), rfl, rfl⟩
  have hbs : ab_B G ≤ s.heap.size := by have := hw.1.2.1; omega
  have hslen : (lg_sl (as.map (ab_V G))).length = (lg_sl as).length := by
    clear kk hw hts C B hsz
    induction as with
    | nil => rfl
    | cons v t ih =>
      cases v <;> simp_all [lg_sl, ab_V, Value.category]
  have hl := lv_entry (as.map (ab_V G)) (n := K.2.2.1) (by rw [hslen]; exact hsz)
  rw [lg_entry_eq]
  refine kk G p l e _ s m _ below meth c _ C hbs ?_ s.heap [] 0 0 _ hw va_S.rf (by show 0 + mc ≤ mc; omega) (by show 0 + ms ≤ ms; omega) (ab_args_lk G hl)
  intro v h' H locs cells slots pc ls hp hrt hri hw' hS hc hs
  have fin : ∀ t : State, t.heap = H → s.WarmedH t.vm → ab_Q G post (as.map (ab_V G)).toArray s (.returned (v.map (ab_V G))) t := fun t ht hW => ⟨v, h', rfl, hp, by rw [ht]; exact hw'.1.warm hW.alike, hS.F ht⟩
  refine W.widen (k := mc) (n := ms) hc hs ?_
  have hret : meth.sig.returnType = K.2.2.2 := B.returns
  cases hk : K.2.2.2 with
  | none =>
    rw [hk] at hrt hret
    match v, hrt with
    | none, _ => exact W.vret B.exec B.bytes hret fin hS.2.2 hri hlk
  | some ty =>
    rw [hk] at hrt hret
    match ty, v, hrt with
    | .int, some (.int x), _ => exact W.iret B.exec B.bytes hret fin hS.2.2 hri hlk
    | .boolean, some (.int x), hx =>
      refine W.zret B.exec B.bytes hret ?_ fin hS.2.2 hri hlk
      rcases hx with rfl | rfl <;> rfl
    | .object nm, some (.ref x), _ => exact W.aret B.exec B.bytes hret (Or.inl ⟨nm, rfl⟩) (Or.inr ⟨_, rfl⟩) fin hS.2.2 hri hlk
    | .object nm, some .null, _ => exact W.aret B.exec B.bytes hret (Or.inl ⟨nm, rfl⟩) (Or.inl rfl) fin hS.2.2 hri hlk
    | .array t, some (.ref x), _ => exact W.aret B.exec B.bytes hret (Or.inr ⟨t, rfl⟩) (Or.inr ⟨_, rfl⟩) fin hS.2.2 hri hlk
theorem ab_after {p : Program} {l : Launch} {e : Env} {R1 : Room} {s : State} {m : MethodId} {args : Array Value} {below : List Frame} {meth : Method} {c : Code} {Q : State → Prop} {G : ab_G} {H : Heap} {locs : List Loc} {cells slots mc ms pc : Nat} {ls : Array Slot} {rest st0 : List Value} {a : Array Value} {post : ab_Po}
    (hr : va_Run p l e R1 s m args below meth c H locs cells slots mc ms (F0 m pc ls st0) rest (ab_Q G post a) (ab_N G)) (hS : va_S (ab_N G) s.heap H locs) (ht : ab_t G s H)
    (kk : ∀ (v : Option Value) (h : ab_M) (H1 : Heap) (locs1 : List Loc), post v h → ab_w G h s H1 → va_S (ab_N G) s.heap H1 locs1 → W p l e R1 s m args below meth c H1 locs1 (cells + mc) (slots + ms) Q (F0 m (pc + 3) ls ((v.map (ab_V G)).toList ++ rest))) : W p l e R1 s m args below meth c H locs cells slots Q (F0 m pc ls st0) := by
  intro T hT X
  obtain ⟨v, st₀, t, T', L, h0, X', hL, e1, e2, ⟨v', h, hv, hp, hvv, hz, hk⟩, st⟩ := hr T hT X
  cases hv
  rw [h0] at hz hk
  have hal : s.vm.Alike t.vm := by rw [← e2]; exact X'.warmed.alike
  have hvv' : ab_v G h s T'.heap := by rw [e1]; exact hvv.warm hal.symm
  obtain ⟨t2, a1, b1⟩ := kk v' h T'.heap (locs ++ L) hp ⟨hvv', ht.kept (fun q h1 h2 => by rw [e1]; exact hk q h1 h2)⟩
    ⟨Nat.le_trans hS.1 (by rw [e1]; exact hz), fun q h1 h2 => by rw [e1, hk q (Nat.lt_of_lt_of_le h1 hS.1) h2]; exact hS.2.1 q h1 h2, fun q hq => by
      rcases List.mem_append.mp hq with h | h
      · exact hS.2.2 q h
      · exact hL q h⟩ T' rfl X'
  exact ⟨t2, st t2 a1, b1⟩
section AB4
variable {fr lo mc ms : Nat} {M : ab_MT} {pc : Nat} {L : List (Nat × Value)} {st : List Value} {n : Nat} {S : ab_SH} {R : ab_RR} {I : ab_II} {post : ab_Po} {idx ci k r : Nat} {C : String} {T : u_T} {N : Nat}
variable {K : ab_MT} {a fr' lo' mc' ms' : Nat} {as : List Value} {post' : ab_Po}
theorem ab_codeIn (hK : ab_MK K a) : GoodIn lw_g (Cond.code K.1 K.2.1 K.2.2.1 K.2.2.2 :: lw_g) := fun w h => by
  rcases List.mem_cons.mp h with rfl | h
  · exact lw_g_good _ hK.1
  · exact lw_g_good _ h
theorem ab_vk (G : ab_G) (v : Option Value) (st : List Value) : (v.map (ab_V G)).toList ++ st.map (ab_V G) = (v.toList ++ st).map (ab_V G) := by cases v <;> rfl
theorem ab_pre {G : ab_G} {h : ab_M} {as : List Value} {s : State} {H : Heap} (hw : ab_w G h s H) : PreS s H (va_Pc (as.map (ab_V G)) (fun U => ab_w G h U U.heap)) (as.map (ab_V G)) :=
  ⟨fun a U g mk q => ⟨q.1, q.2.blind⟩, fun U hU hW => ⟨rfl, by show ab_w G h U U.heap; rw [hU]; exact ⟨hw.1.warm hW.alike, hw.2.warm hW⟩⟩⟩
/-- invokevirtual -/
theorem wp_callV (kk' : wp fr' lo' mc' ms' K 0 (lv_args 0 (.ref r :: as)) [] (n, S, R, I) post') (hd : decode M.2.1 pc = .ok (.invokevirtual idx, 3)) (hK : ab_MK K a) (hC : ab_K ci C T N) (hy : K.1.cls = C) (hl1 : Cond.methodLink M.1.cls idx K.1 ∈ lw_g) (hl2 : Cond.instanceMethod K.1 ∈ lw_g) (hl3 : Cond.selects K.1.cls K.1 K.1 ∈ lw_g)
    (hsz : (lg_sl (.ref r :: as)).length ≤ K.2.2.1) (ha : as.length = a) (hr : ab_ok n S r ci) (hro : fr' + 1 ≤ fr ∧ 8 + (K.2.2.1 + 11) + lo' ≤ lo ∧ mc' ≤ mc ∧ ms' ≤ ms) (hst : (st.map fun v => v.category).sum ≤ 8)
    {st0 : List Value} (he : st0 = as.reverse ++ .ref r :: st)
    (kk : ∀ v h, post' v h → wp fr lo (mc - mc') (ms - ms') M (pc + 3) L (v.toList ++ st) h post) : wp fr lo mc ms M pc L st0 (n, S, R, I) post := by
  intro G p l e R1 s m args below meth c Q Cx hb hQ H locs cells slots ls hw hS hc hs hl
  obtain ⟨hx, hcode, hml, -, -, -, hown, hts, hfr, hlo⟩ := id Cx
  have cw : CallW R1 s args M.1.cls K.1.cls idx K.1 K.2.1 K.2.2.1 K.2.2.2 (Cond.code K.1 K.2.1 K.2.2.1 K.2.2.2 :: lw_g) { frames := fr', cells := mc', slots := ms', locals := lo' } mc' ms' a :=
    ⟨callB_of a hts (ab_codeIn hK) rfl rfl rfl (hts _ hK.2.1) (hts _ hl1) ⟨hK.2.2.2.1, hK.2.2.2.2.1, hK.2.2.2.2.2⟩ ⟨by show fr' + 1 ≤ _; omega, by show _ + lo' ≤ _; omega⟩, hts _ hl2, hts _ hl3⟩
  have hp := ab_pre (as := .ref r :: as) hw
  have hpv : PreV s H K.1.cls (ab_R G r) (va_Pc ((.ref r :: as).map (ab_V G)) (fun U => ab_w G (n, S, R, I) U U.heap)) (as.map (ab_V G)) := ⟨hp.1, by rw [hy]; exact ab_recv hw hr hC.1 hC.2.2.2.2.2, hp.2⟩
  subst he
  have hrun := va_runV (g := F0 m pc ls ((as.reverse ++ .ref r :: st).map (ab_V G))) (locs := locs) (cells := cells) (slots := slots) (e := e) (below := below) (meth := meth) (rest := st.map (ab_V G)) ⟨hx, hcode, hml, hown, hts⟩ (ab_met hK hsz kk' l G) cw hpv rfl (by simpa using ha) hl.1 (by simp; rfl) (by rw [ab_stw]; simpa [JFrame.monitorRoom] using hst) hd ⟨by omega, by omega⟩
  refine ab_after hrun hS hw.2 (fun v h H1 locs1 hp1 hw1 hS1 => ?_)
  rw [ab_vk]
  exact kk v h hp1 G p l e R1 s m args below meth c Q Cx hb hQ H1 locs1 _ _ ls hw1 hS1 (by omega) (by omega) hl
/-- invokespecial of a constructor -/
theorem wp_callI (kk' : wp fr' lo' mc' ms' K 0 (lv_args 0 (.ref r :: as)) [] (n, S, R, I) post') (hd : decode M.2.1 pc = .ok (.invokespecial idx, 3)) (hK : ab_MK K a) (hy : K.1.name = "<init>") (hret : K.2.2.2 = none) (hl1 : Cond.methodLink M.1.cls idx K.1 ∈ lw_g) (hl2 : Cond.instanceMethod K.1 ∈ lw_g)
    (hsz : (lg_sl (.ref r :: as)).length ≤ K.2.2.1) (ha : as.length = a) (hro : fr' + 1 ≤ fr ∧ 8 + (K.2.2.1 + 11) + lo' ≤ lo ∧ mc' ≤ mc ∧ ms' ≤ ms) (hst : (st.map fun v => v.category).sum ≤ 8)
    {st0 : List Value} (he : st0 = as.reverse ++ .ref r :: st)
    (kk : ∀ v h, post' v h → wp fr lo (mc - mc') (ms - ms') M (pc + 3) L (v.toList ++ st) h post) : wp fr lo mc ms M pc L st0 (n, S, R, I) post := by
  intro G p l e R1 s m args below meth c Q Cx hb hQ H locs cells slots ls hw hS hc hs hl
  obtain ⟨hx, hcode, hml, -, -, -, hown, hts, hfr, hlo⟩ := id Cx
  have hG := ab_codeIn hK
  have hmet := ab_met hK hsz kk' l G
  have hK1 := hK.1
  rw [hret] at hG hmet hK1
  have cw : CallB R1 s args M.1.cls idx K.1 K.2.1 K.2.2.1 none (Cond.code K.1 K.2.1 K.2.2.1 none :: lw_g) { frames := fr', cells := mc', slots := ms', locals := lo' } mc' ms' a ∧ K.1.name = "<init>" ∧ (Cond.instanceMethod K.1).before args s = true :=
    ⟨callB_of a hts hG rfl rfl rfl (hts _ hK.2.1) (hts _ hl1) ⟨hK.2.2.2.1, hK.2.2.2.2.1, hK.2.2.2.2.2⟩ ⟨by show fr' + 1 ≤ _; omega, by show _ + lo' ≤ _; omega⟩, hy, hts _ hl2⟩
  have hp := ab_pre (as := .ref r :: as) hw
  subst he
  have hrun := va_runI (g := F0 m pc ls ((as.reverse ++ .ref r :: st).map (ab_V G))) (b := ab_R G r) (As := as.map (ab_V G)) (locs := locs) (cells := cells) (slots := slots) (e := e) (below := below) (meth := meth) (rest := st.map (ab_V G)) ⟨hx, hcode, hml, hown, hts⟩ hmet cw hp rfl (by simpa using ha) hl.1 (by simp; rfl) (by rw [ab_stw]; simpa [JFrame.monitorRoom] using hst) hd ⟨by omega, by omega⟩
  refine ab_after hrun hS hw.2 (fun v h H1 locs1 hp1 hw1 hS1 => ?_)
  rw [ab_vk]
  exact kk v h hp1 G p l e R1 s m args below meth c Q Cx hb hQ H1 locs1 _ _ ls hw1 hS1 (by omega) (by omega) hl
/-- invokestatic -/
theorem wp_callS (kk' : wp fr' lo' mc' ms' K 0 (lv_args 0 as) [] (n, S, R, I) post') (hd : decode M.2.1 pc = .ok (.invokestatic idx, 3)) (hK : ab_MK K a) (hl1 : Cond.methodLink M.1.cls idx K.1 ∈ lw_g) (hl2 : Cond.static K.1 ∈ lw_g)
    (hsz : (lg_sl as).length ≤ K.2.2.1) (ha : as.length = a) (hro : fr' + 1 ≤ fr ∧ 8 + (K.2.2.1 + 11) + lo' ≤ lo ∧ mc' ≤ mc ∧ ms' ≤ ms) (hst : (st.map fun v => v.category).sum ≤ 8)
    {st0 : List Value} (he : st0 = as.reverse ++ st)
    (kk : ∀ v h, post' v h → wp fr lo (mc - mc') (ms - ms') M (pc + 3) L (v.toList ++ st) h post) : wp fr lo mc ms M pc L st0 (n, S, R, I) post := by
  intro G p l e R1 s m args below meth c Q Cx hb hQ H locs cells slots ls hw hS hc hs hl
  obtain ⟨hx, hcode, hml, -, -, -, hown, hts, hfr, hlo⟩ := id Cx
  have cw : CallB R1 s args M.1.cls idx K.1 K.2.1 K.2.2.1 K.2.2.2 (Cond.code K.1 K.2.1 K.2.2.1 K.2.2.2 :: lw_g) { frames := fr', cells := mc', slots := ms', locals := lo' } mc' ms' a ∧ (Cond.static K.1).before args s = true :=
    ⟨callB_of a hts (ab_codeIn hK) rfl rfl rfl (hts _ hK.2.1) (hts _ hl1) ⟨hK.2.2.2.1, hK.2.2.2.2.1, hK.2.2.2.2.2⟩ ⟨by show fr' + 1 ≤ _; omega, by show _ + lo' ≤ _; omega⟩, hts _ hl2⟩
  have hp := ab_pre (as := as) hw
  subst he
  have hrun := va_runS (g := F0 m pc ls ((as.reverse ++ st).map (ab_V G))) (As := as.map (ab_V G)) (locs := locs) (cells := cells) (slots := slots) (e := e) (below := below) (meth := meth) (rest := st.map (ab_V G)) ⟨hx, hcode, hml, hown, hts⟩ (ab_met hK hsz kk' l G) cw hp rfl (by simpa using ha) hl.1 (by simp) (by rw [ab_stw]; simpa [JFrame.monitorRoom] using hst) hd ⟨by omega, by omega⟩
  refine ab_after hrun hS hw.2 (fun v h H1 locs1 hp1 hw1 hS1 => ?_)
  rw [ab_vk]
  exact kk v h hp1 G p l e R1 s m args below meth c Q Cx hb hQ H1 locs1 _ _ ls hw1 hS1 (by omega) (by omega) hl
/-- System.arraycopy between rows of files -/
theorem wp_copy {r0 r1 : Nat} {sp dp cn : Int32} (hd : decode M.2.1 pc = .ok (.invokestatic idx, 3)) (h1 : Cond.methodLink M.1.cls idx arraycopyName ∈ lw_g) (h2 : Cond.native arraycopyName ∈ lw_g) (h3 : Cond.static arraycopyName ∈ lw_g) (h4 : Cond.initialized "java/lang/System" ∈ lw_g)
    (hr0 : ab_ok n S r0 12) (hr1 : ab_ok n S r1 12) (g1 : ¬ sp < 0) (g2 : ¬ dp < 0) (g3 : ¬ cn < 0) (g4 : sp.toNatClampNeg + cn.toNatClampNeg ≤ (S r0).2) (g5 : dp.toNatClampNeg + cn.toNatClampNeg ≤ (S r1).2)
    (hel : ∀ i : Nat, i < cn.toNatClampNeg → ∀ y, R r0 (sp.toNatClampNeg + i) = some y → ab_ok n S y 6) (hf : 1 ≤ fr) (hlo : (st.map fun v => v.category).sum + (nativeFrameWords "java/lang/System" "arraycopy" 5 + 11) ≤ lo)
    (kk : wp fr lo mc ms M (pc + 3) L st (n, S, va_up R r1 (va_cpy (R r0) (R r1) sp.toNatClampNeg dp.toNatClampNeg cn.toNatClampNeg), I) post) : wp fr lo mc ms M pc L (.int cn :: .int dp :: .ref r1 :: .int sp :: .ref r0 :: st) (n, S, R, I) post := by
  intro G p l e R1 s m args below meth c Q Cx hb hQ H locs cells slots ls hw hS hc hs hl
  obtain ⟨hx, hcode, hml, -, -, -, hown, hts, hfr, hloc⟩ := id Cx
  have nn : ∀ z : Int32, ¬ z < 0 → z.toInt = (z.toNatClampNeg : Int) := by
    intro z hz
    have hz0 : (0 : Int) ≤ z.toInt := by
      have := Int32.not_lt.mp hz
      simpa using Int32.le_iff_toInt_le.mp this
    show z.toInt = ((z.toInt.toNat : Nat) : Int)
    omega
  have he0 := ab_W_get G (S := S) (R := R) (I := I) hr0.1 hr0.2.1
  rw [ab_E_ref hr0.2.2 (by decide) (by decide)] at he0
  have he1 := ab_W_get G (S := S) (R := R) (I := I) hr1.1 hr1.2.1
  rw [ab_E_ref hr1.2.2 (by decide) (by decide)] at he1
  intro T hT X
  have hc0 : H[ab_R G r0]? = some (vp_cell (ab_A G 12) ((S r0).2, .inr (.inr (.inr (.inr (fun i => (R r0 i).map (ab_R G))))))) := hw.1.2.2.1 _ _ he0
  have hc1 : H[ab_R G r1]? = some (vp_cell (ab_A G 12) ((S r1).2, .inr (.inr (.inr (.inr (fun i => (R r1 i).map (ab_R G))))))) := hw.1.2.2.1 _ _ he1
  obtain ⟨hArr, kA, comp, q1, q2, q3, -⟩ := hw.2.1.2 3 _ rfl
  obtain ⟨kE, hkE, -⟩ := Vm.findClass_spec q3
  obtain ⟨vm', X', step⟩ := X.arraycopy hx hown (hts _ h1) (hts _ h2) (hts _ h3) (hts _ h4) (src := ab_R G r0) (dst := ab_R G r1) (cs := vp_cell (ab_A G 12) ((S r0).2, .inr (.inr (.inr (.inr (fun i => (R r0 i).map (ab_R G))))))) (cd := vp_cell (ab_A G 12) ((S r1).2, .inr (.inr (.inr (.inr (fun i => (R r1 i).map (ab_R G))))))) (srcPos := sp) (destPos := dp) (n := cn) (by rw [hT]; exact hc0) (by rw [hT]; exact hc1)
    (fun _ h => by cases h) (fun _ h => by cases h) (fun h => by cases h) (fun h => by cases h) q1 q1 q2 q2 rfl g1 g2 g3
    (by rw [nn sp g1, nn cn g3]; show ¬ _ > ((arrV _ (S r0).2 _).slots.size : Int); rw [arrV_size]; omega)
    (by rw [nn dp g2, nn cn g3]; show ¬ _ > ((arrV _ (S r1).2 _).slots.size : Int); rw [arrV_size]; omega)
    (fun vm₁ hal i hi => by
      have e : (vp_cell (ab_A G 12) ((S r0).2, .inr (.inr (.inr (.inr (fun i => (R r0 i).map (ab_R G))))))).slots.getD (sp.toNatClampNeg + i) .null = va_rf ((R r0 (sp.toNatClampNeg + i)).map (ab_R G)) := by
        show (arrV _ (S r0).2 _).slots.getD _ _ = _
        rw [Array.getD_eq_getD_getElem?, arrV_read _ _ (by omega)]
        rfl
      rw [e]
      cases hy : R r0 (sp.toNatClampNeg + i) with
      | none => exact ⟨rfl, trivial⟩
      | some y =>
        have hoy := hel i hi y hy
        have hv := ab_W_get G (S := S) (R := R) (I := I) hoy.1 hoy.2.1
        rw [ab_E_obj hoy.2.2 (by decide)] at hv
        obtain ⟨cellV, v1, v2, v3⟩ := va_recv (ci := 6) hw.2.1 hw.1.2.2.1 rfl hv
        obtain ⟨kC, hkC, -⟩ := Vm.findClass_spec v3
        obtain ⟨c0, t1, f1, f2, f3⟩ := Cond.castable_spec hw.2.2.2.2.2.2.2.2.1
        have v3 : s.vm.findClass "LevelStore$SortedFile" = some cellV.cls := v3
        cases v3.symm.trans f1
        cases q3.symm.trans f2
        obtain ⟨kC', hkC', -⟩ := hal.2.2 _ _ hkC
        obtain ⟨kE', hkE', -⟩ := hal.2.2 _ _ hkE
        refine ⟨rfl, cellV, (show T.heap[ab_R G y]? = some cellV by rw [hT]; exact v1), (fun q h => by rw [h] at v2; cases v2), ⟨kC', hkC'⟩, ?_, ?_⟩
        · exact ⟨kE', hkE'⟩
        · show vm₁.assignable _ _ = true
          rw [hal.assignable]
          exact f3)
    (g := F0 m pc ls (.int cn :: .int dp :: .ref (ab_R G r1) :: .int sp :: .ref (ab_R G r0) :: st.map (ab_V G))) rfl (by rw [hml]; exact hl.1) (rest := st.map (ab_V G)) rfl (by rw [hcode]; exact hd) (by omega) (by show 2 * 0 + _ + _ ≤ _; rw [ab_stw]; omega)
  have e1 : copied (vp_cell (ab_A G 12) ((S r0).2, .inr (.inr (.inr (.inr (fun i => (R r0 i).map (ab_R G))))))) (vp_cell (ab_A G 12) ((S r1).2, .inr (.inr (.inr (.inr (fun i => (R r1 i).map (ab_R G))))))) sp dp cn = vp_cell (ab_A G 12) ((S r1).2, .inr (.inr (.inr (.inr (va_cpy (fun i => (R r0 i).map (ab_R G)) (fun i => (R r1 i).map (ab_R G)) sp.toNatClampNeg dp.toNatClampNeg cn.toNatClampNeg))))) := by
    rw [vp_cell_q, vp_cell_q, vp_cell_q]
    exact va_copied (fun z => va_rf z) (ab_A G 12) (ab_A G 12) _ _ g4
  rw [e1] at X' step
  have e2 : va_cpy (fun i => (R r0 i).map (ab_R G)) (fun i => (R r1 i).map (ab_R G)) sp.toNatClampNeg dp.toNatClampNeg cn.toNatClampNeg = fun i => (va_cpy (R r0) (R r1) sp.toNatClampNeg dp.toNatClampNeg cn.toNatClampNeg i).map (ab_R G) := by
    funext i
    unfold va_cpy
    split <;> rfl
  rw [e2] at X' step
  generalize hcell : vp_cell (ab_A G 12) ((S r1).2, .inr (.inr (.inr (.inr (fun i => (va_cpy (R r0) (R r1) sp.toNatClampNeg dp.toNatClampNeg cn.toNatClampNeg i).map (ab_R G)))))) = nc at X' step
  have hll : ab_R G r1 < H.size := (Array.getElem?_eq_some_iff.mp hc1).1
  have hheap : ((T.setVm vm').setCell (ab_R G r1) nc).heap = H.setIfInBounds (ab_R G r1) nc := by rw [← hT]; rfl
  have oq : ∀ q : Nat, q ≠ ab_R G r1 → (H.setIfInBounds (ab_R G r1) nc)[q]? = H[q]? := fun q hq => by simp [Array.getElem?_setIfInBounds, Ne.symm hq]
  have hw1 : ab_w G (n, S, va_up R r1 (va_cpy (R r0) (R r1) sp.toNatClampNeg dp.toNatClampNeg cn.toNatClampNeg), I) s (H.setIfInBounds (ab_R G r1) nc) := by
    refine ab_w_up hw hr1.1 (by simp) oq ?_ (fun j hj => by simp [va_up, hj]) (fun _ _ => rfl)
    rw [ab_E_ref hr1.2.2 (by decide) (by decide)]
    show (H.setIfInBounds (ab_R G r1) nc)[ab_R G r1]? = some (vp_cell _ _)
    simp only [va_up, if_true]
    rw [hcell]
    simp [Array.getElem?_setIfInBounds, hll]
  obtain ⟨t, a1, b1⟩ := kk G p l e R1 s m args below meth c Q Cx hb hQ _ _ cells slots ls hw1 ⟨by simp; exact hS.1, fun q g1 g2 => by
      rw [oq q (fun e => g2 (by rw [e]; exact ab_R_N G hr1.1))]
      exact hS.2.1 q g1 g2, fun q hq => by
      rcases List.mem_append.mp hq with h | h
      · exact hS.2.2 q h
      · obtain ⟨z, -, hz⟩ := List.mem_map.mp h
        rw [← hz]
        exact ab_R_N G hr1.1⟩ hc hs hl _ hheap X'
  exact ⟨t, step t a1, b1⟩
end AB4
