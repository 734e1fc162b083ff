/-! RULES FOR WHAT IS MADE, AND FOR CALLS -/
theorem ab_dflt : ∀ ci, ci < 9 → ∀ j, j < ab_nf ci → defaultValue (ab_ty ci j) = if ab_isR ci j = true then .null else .int 0 := by decide +kernel
section AB3
variable {fr lo mc ms : Nat} {M : ab_MT} {pc : Nat} {L : List (Nat × Value)} {st : List Value} {n : Nat} {S : ab_SH} {R : ab_RR} {I : ab_II} {post : ab_Po} {idx ci k r : Nat} {C : String} {T : u_T} {N : Nat}
abbrev ab_nS (S : ab_SH) (n kd len : Nat) : ab_SH := va_up S n (kd, len)
abbrev ab_nR (R : ab_RR) (n : Nat) : ab_RR := va_up R n (fun _ => none)
abbrev ab_nI (I : ab_II) (n : Nat) : ab_II := va_up I n (fun _ => 0)
theorem ab_szR {G : ab_G} {U : State} {H : Heap} (hw : ab_w G (n, S, R, I) U H) : H.size = ab_R G n := by
  have v1 : 3 ≤ n := hw.1.1
  rw [ab_R_big G v1]
  exact hw.1.2.1
theorem wp_new (hd : decode M.2.1 pc = .ok (.new idx, 3)) (hK : ab_K ci C T N) (h1 : Cond.classLink M.1.cls idx C ∈ lw_g) (h2 : Cond.instantiable C N ∈ lw_g) (h3 : Cond.initialized C ∈ lw_g) (hm : 1 ≤ mc) (hz : N ≤ ms)
    (kk : wp fr lo (mc - 1) (ms - N) M (pc + 3) L (.ref n :: st) (n + 1, ab_nS S n ci 0, ab_nR R n, ab_nI I n) post) : wp fr lo mc ms M pc L st (n, S, R, I) post := by
  intro G p l e R1 s m args below meth c Q Cx hb hQ H locs cells slots ls hw hS hc hs hl
  obtain ⟨hx, hcode, -, -, -, -, hown, hts, -⟩ := id Cx
  obtain ⟨k1, k2, k3, k4, k5, k6⟩ := hK
  have hKn := hw.2.1.1 ci _ k1
  refine W.newcK hx hcode hown (hts _ h1) (hts _ h2) (hts _ h3) rfl hd (by omega) (by omega) hKn.2.1 rfl fun H1 kC hkC e1 z1 o1 => ?_
  have hw1 : ab_w G (n + 1, ab_nS S n ci 0, ab_nR R n, ab_nI I n) s H1 := by
    refine ab_w_new hw z1 o1 ?_
    rw [ab_E_obj (ci := ci) (by simp [va_up]) k6]
    refine ⟨_, k1, (u_born (ab_ty ci) hts k3 hKn hkC e1 k4).to (fun j hj => ?_)⟩
    rw [ab_dflt ci k6 j (by omega)]
    have hj2 : j < ab_nf ci := by have : N = ab_nf ci := k2; omega
    show _ = List.getD _ _ _
    rw [List.getD_eq_getElem?_getD, List.getElem?_map, List.getElem?_range hj2]
    simp only [Option.map_some, Option.getD_some, ab_F, va_up, if_true, Option.map_none]
    rfl
  have kk' := kk G p l e R1 s m args below meth c Q Cx hb hQ H1 locs (cells + 1) (slots + N) ls hw1 (ab_S_new hS z1 o1) (by omega) (by omega) hl
  rw [List.map_cons] at kk'
  rw [ab_szR hw]
  exact kk'
theorem wp_newI {i : Int32} (hd : decode M.2.1 pc = .ok (.newarray .int, 2)) (h1 : Cond.arrayClass .int ∈ lw_g) (h0 : ¬ i < 0) (hN : i.toNatClampNeg = N) (hB : N ≤ 100000) (hm : 1 ≤ mc) (hz : N ≤ ms)
    (kk : wp fr lo (mc - 1) (ms - N) M (pc + 2) L (.ref n :: st) (n + 1, ab_nS S n 9 N, ab_nR R n, ab_nI I n) post) : wp fr lo mc ms M pc L (.int i :: st) (n, S, R, I) post := by
  intro G p l e R1 s m args below meth c Q Cx hb hQ H locs cells slots ls hw hS hc hs hl
  obtain ⟨hx, hcode, -, -, -, -, hown, hts, -⟩ := id Cx
  have hAr : s.vm.findClass ("[" ++ FieldType.int.toString) = some (ab_A G 9) := (hw.2.1.2 0 _ rfl).2
  refine va_newaK hx hcode (atype := .int) (hts _ h1) rfl hd rfl h0 hN (by show N * componentBytes .int ≤ _; rw [show componentBytes .int = 4 from rfl]; omega) (by omega) (by omega) rfl fun H1 cA e1 z1 o1 hA1 hA2 => ?_
  have hcA : cA = ab_A G 9 := Option.some.inj (hA2.symm.trans hAr)
  subst hcA
  have hw1 : ab_w G (n + 1, ab_nS S n 9 N, ab_nR R n, ab_nI I n) s H1 := by
    refine ab_w_new hw z1 o1 ?_
    rw [ab_E_int (ci := 9) (by simp [va_up]) (by decide) (by decide)]
    show H1[H.size]? = some (vp_cell _ _)
    rw [e1]
    simp [va_up, vp_cell_i]
    rfl
  have kk' := kk G p l e R1 s m args below meth c Q Cx hb hQ H1 locs (cells + 1) (slots + N) ls hw1 (ab_S_new hS z1 o1) (by omega) (by omega) hl
  rw [List.map_cons] at kk'
  rw [ab_szR hw]
  exact kk'
theorem wp_newZ {i : Int32} (hd : decode M.2.1 pc = .ok (.newarray .boolean, 2)) (h1 : Cond.arrayClass .boolean ∈ lw_g) (h0 : ¬ i < 0) (hN : i.toNatClampNeg = N) (hB : N ≤ 100000) (hm : 1 ≤ mc) (hz : N ≤ ms)
    (kk : wp fr lo (mc - 1) (ms - N) M (pc + 2) L (.ref n :: st) (n + 1, ab_nS S n 10 N, ab_nR R n, ab_nI I n) post) : wp fr lo mc ms M pc L (.int i :: st) (n, S, R, I) post := by
  intro G p l e R1 s m args below meth c Q Cx hb hQ H locs cells slots ls hw hS hc hs hl
  obtain ⟨hx, hcode, -, -, -, -, hown, hts, -⟩ := id Cx
  have hAr : s.vm.findClass ("[" ++ FieldType.boolean.toString) = some (ab_A G 10) := (hw.2.1.2 1 _ rfl).2
  refine va_newaK hx hcode (atype := .boolean) (hts _ h1) rfl hd rfl h0 hN (by show N * componentBytes .boolean ≤ _; rw [show componentBytes .boolean = 1 from rfl]; omega) (by omega) (by omega) rfl fun H1 cA e1 z1 o1 hA1 hA2 => ?_
  have hcA : cA = ab_A G 10 := Option.some.inj (hA2.symm.trans hAr)
  subst hcA
  have hw1 : ab_w G (n + 1, ab_nS S n 10 N, ab_nR R n, ab_nI I n) s H1 := by
    refine ab_w_new hw z1 o1 ?_
    rw [ab_E_int (ci := 10) (by simp [va_up]) (by decide) (by decide)]
    show H1[H.size]? = some (vp_cell _ _)
    rw [e1]
    simp [va_up, vp_cell_i]
    rfl
  have kk' := kk G p l e R1 s m args below meth c Q Cx hb hQ H1 locs (cells + 1) (slots + N) ls hw1 (ab_S_new hS z1 o1) (by omega) (by omega) hl
  rw [List.map_cons] at kk'
  rw [ab_szR hw]
  exact kk'
theorem ab_anew {E : String} {kd t0 : Nat} {i : Int32} (hkd : kd = 11 ∨ kd = 12) (hty : ∀ G, (ab_tys G)[t0]? = some (ab_A G kd, .object E)) (hao : ∀ G U H, ab_t G U H → va_AO E U)
    (hd : decode M.2.1 pc = .ok (.anewarray idx, 3)) (h1 : Cond.classLink M.1.cls idx E ∈ lw_g) (h0 : ¬ i < 0) (hN : i.toNatClampNeg = N) (hB : N ≤ 100000) (hm : 1 ≤ mc) (hz : N ≤ ms)
    (kk : wp fr lo (mc - 1) (ms - N) M (pc + 3) L (.ref n :: st) (n + 1, ab_nS S n kd N, ab_nR R n, ab_nI I n) post) : wp fr lo mc ms M pc L (.int i :: st) (n, S, R, I) post := by
  intro G p l e R1 s m args below meth c Q Cx hb hQ H locs cells slots ls hw hS hc hs hl
  obtain ⟨hx, hcode, -, -, -, -, hown, hts, -⟩ := id Cx
  subst hN
  refine W.anew hx hcode hown (hts _ h1) (va_AO.use (hao G s H hw.2)) rfl hd rfl h0 (by omega) (by omega) (by omega) fun cA kA comp f1 f2 f3 f4 => ?_
  generalize hH1 : H.push ({ cls := cA, slots := Array.replicate i.toNatClampNeg .null, vm := .none } : Cell) = H1
  have z1 : H1.size = H.size + 1 := by rw [← hH1, Array.size_push]
  have e1 : H1[H.size]? = some (arrV cA i.toNatClampNeg (fun _ => .null)) := by rw [← hH1, Array.getElem?_push_size, ← arrV_new]
  have o1 : ∀ q : Nat, q < H.size → H1[q]? = H[q]? := fun q hq => by rw [← hH1, Array.getElem?_push, if_neg (Nat.ne_of_lt hq)]
  obtain ⟨-, kA', comp', g1, g2, g3, g4⟩ := hw.2.1.2 t0 _ (hty G)
  have hcA : cA = ab_A G kd := Option.some.inj (f1.symm.trans g4)
  subst hcA
  have hw1 : ab_w G (n + 1, ab_nS S n kd i.toNatClampNeg, ab_nR R n, ab_nI I n) s H1 := by
    refine ab_w_new hw z1 o1 ?_
    rw [ab_E_ref (ci := kd) (by simp [va_up]) (by omega) (by omega)]
    show H1[H.size]? = some (vp_cell _ _)
    rw [e1]
    simp [va_up, vp_cell_q, va_rf]
  have kk' := kk G p l e R1 s m args below meth c Q Cx hb hQ H1 locs (cells + 1) (slots + i.toNatClampNeg) ls hw1 (ab_S_new hS z1 o1) (by omega) (by omega) hl
  rw [List.map_cons] at kk'
  rw [ab_szR hw]
  exact kk'
theorem wp_anewO {i : Int32} (hd : decode M.2.1 pc = .ok (.anewarray idx, 3)) (h1 : Cond.classLink M.1.cls idx "java/lang/Object" ∈ lw_g) (h0 : ¬ i < 0) (hN : i.toNatClampNeg = N) (hB : N ≤ 100000) (hm : 1 ≤ mc) (hz : N ≤ ms)
    (kk : wp fr lo (mc - 1) (ms - N) M (pc + 3) L (.ref n :: st) (n + 1, ab_nS S n 12 N, ab_nR R n, ab_nI I n) post) : wp fr lo mc ms M pc L (.int i :: st) (n, S, R, I) post :=
  ab_anew (t0 := 3) (Or.inr rfl) (fun _ => rfl) (fun _ _ _ h => h.2.2.2.2.2.1) hd h1 h0 hN hB hm hz kk
theorem wp_anewF {i : Int32} (hd : decode M.2.1 pc = .ok (.anewarray idx, 3)) (h1 : Cond.classLink M.1.cls idx "LevelStore$FileRow" ∈ lw_g) (h0 : ¬ i < 0) (hN : i.toNatClampNeg = N) (hB : N ≤ 100000) (hm : 1 ≤ mc) (hz : N ≤ ms)
    (kk : wp fr lo (mc - 1) (ms - N) M (pc + 3) L (.ref n :: st) (n + 1, ab_nS S n 11 N, ab_nR R n, ab_nI I n) post) : wp fr lo mc ms M pc L (.int i :: st) (n, S, R, I) post :=
  ab_anew (t0 := 2) (Or.inl rfl) (fun _ => rfl) (fun _ _ _ h => h.2.2.2.2.2.2.1) hd h1 h0 hN hB hm hz kk
theorem ab_arr_upR {G : ab_G} {f g : Nat → Option Nat} {j : Nat} {x : Option Nat} {cA : ClassId} {len : Nat} (h1 : g j = x) (h2 : ∀ i, i ≠ j → g i = f i) : (vp_cell cA (len, .inr (.inr (.inr (.inr f))))).setSlot j (va_rf x) = vp_cell cA (len, .inr (.inr (.inr (.inr g)))) := by
  rw [vp_cell_q, vp_cell_q, arrV_store]
  congr 1
  funext q
  by_cases hq : q = j
  · subst hq
    simp [updV, h1]
  · simp [updV, hq, h2 q hq]
theorem wp_aastoreN {i : Int32} (hd : decode M.2.1 pc = .ok (.aastore, 1)) (hr : ab_ok n S r 12) (hi : vp_in i (S r).2) (kk : wp fr lo mc ms M (pc + 1) L st (n, S, ab_u2 R r i.toNatClampNeg none, I) post) : wp fr lo mc ms M pc L (.null :: .int i :: .ref r :: st) (n, S, R, I) post := by
  intro G p l e R1 s m args below meth c Q Cx hb hQ H locs cells slots ls hw hS hc hs hl
  have he := ab_W_get G (S := S) (R := R) (I := I) hr.1 hr.2.1
  rw [ab_E_ref hr.2.2 (by decide) (by decide)] at he
  refine va_WaastN (C := "java/lang/Object") Cx.1 Cx.2.1 (hw.1.2.2.1 (r - 3) _ he) ((hw.2.1.2 3 _ rfl).1 _ _) (fun h => by cases h) (by show ¬ (i < 0 ∨ (arrV _ _ _).slots.size ≤ _); rw [arrV_size]; exact hi) rfl rfl hd fun H1 e1 e2 e3 => ?_
  refine kk G p l e R1 s m args below meth c Q Cx hb hQ H1 _ cells slots ls (ab_w_up hw hr.1 e2 e3 ?_ (fun j hj => ab_u2_r R none hj) (fun _ _ => rfl)) (hS.put e2 e3 (ab_R_N G hr.1)) hc hs hl
  rw [ab_E_ref hr.2.2 (by decide) (by decide)]
  refine e1.trans ?_
  rw [show (Value.null) = va_rf none from rfl, ab_arr_upR (G := G) (g := fun j => (ab_u2 R r i.toNatClampNeg none r j).map (ab_R G)) (by rw [ab_u2_s]; rfl) (fun j hj => by rw [ab_u2_n R none (Or.inr hj)])]
theorem ab_aast {E : String} {kd t0 cv : Nat} {C' : String} {T' : u_T} {N' : Nat} {i : Int32} {x : Nat} (hkd : kd = 11 ∨ kd = 12) (hty : ∀ G, (ab_tys G)[t0]? = some (ab_A G kd, .object E)) (hcl : vwCl[cv]? = some (C', T', N')) (hcv : cv < 9)
    (hasg : ∀ G U H, ab_t G U H → ∀ a b : ClassId, U.vm.findClass C' = some a → U.vm.findClass E = some b → U.vm.assignable a b = true)
    (hd : decode M.2.1 pc = .ok (.aastore, 1)) (hr : ab_ok n S r kd) (hi : vp_in i (S r).2) (hx : ab_ok n S x cv) (kk : wp fr lo mc ms M (pc + 1) L st (n, S, ab_u2 R r i.toNatClampNeg (some x), I) post) : wp fr lo mc ms M pc L (.ref x :: .int i :: .ref r :: st) (n, S, R, I) post := by
  intro G p l e R1 s m args below meth c Q Cx hb hQ H locs cells slots ls hw hS hc hs hl
  have he := ab_W_get G (S := S) (R := R) (I := I) hr.1 hr.2.1
  rw [ab_E_ref hr.2.2 (by omega) (by omega)] at he
  have hv := ab_W_get G (S := S) (R := R) (I := I) hx.1 hx.2.1
  rw [ab_E_obj hx.2.2 hcv] at hv
  have hlt : i.toNatClampNeg < (S r).2 := Nat.not_le.mp fun q => hi (Or.inr q)
  have h0 : ¬ i < 0 := fun q => hi (Or.inl q)
  obtain ⟨r', hr', cellV, g1, g2, g3, -⟩ := hw.1.2.2.1 (x - 3) _ hv
  have hcls := (hw.2.1.1 cv _ hcl).2
  obtain ⟨-, kA, comp, k1, k2, k3, -⟩ := hw.2.1.2 t0 _ (hty G)
  obtain ⟨kE, hkE, -⟩ := Vm.findClass_spec k3
  have f3 := hasg G s H hw.2 _ _ hcls.1 k3
  obtain ⟨kC, hkC, -⟩ := hcls.2
  refine W.aast Cx.1 Cx.2.1 (hw.1.2.2.1 (r - 3) _ he) (fun q h => by cases h) (fun h => by cases h) k1 k2 rfl hkE ⟨h0, by show _ < (arrV _ _ _).slots.size; rw [arrV_size]; exact hlt⟩ g1 (fun q h => by rw [g3] at h; cases h) (by rw [g2]; exact hkC) (by rw [g2]; exact f3) rfl rfl hd fun H1 e1 e2 e3 => ?_
  refine kk G p l e R1 s m args below meth c Q Cx hb hQ H1 _ cells slots ls (ab_w_up hw hr.1 e2 e3 ?_ (fun j hj => ab_u2_r R (some x) hj) (fun _ _ => rfl)) (hS.put e2 e3 (ab_R_N G hr.1)) hc hs hl
  rw [ab_E_ref hr.2.2 (by omega) (by omega)]
  refine e1.trans ?_
  rw [show (Value.ref (ab_R G x)) = va_rf (some (ab_R G x)) from rfl, ab_arr_upR (G := G) (g := fun j => (ab_u2 R r i.toNatClampNeg (some x) r j).map (ab_R G)) (by rw [ab_u2_s]; rfl) (fun j hj => by rw [ab_u2_n R (some x) (Or.inr hj)])]
theorem wp_aastoreO {i : Int32} {x : Nat} (hd : decode M.2.1 pc = .ok (.aastore, 1)) (hr : ab_ok n S r 12) (hi : vp_in i (S r).2) (hx : ab_ok n S x 6) (kk : wp fr lo mc ms M (pc + 1) L st (n, S, ab_u2 R r i.toNatClampNeg (some x), I) post) : wp fr lo mc ms M pc L (.ref x :: .int i :: .ref r :: st) (n, S, R, I) post := by
  refine ab_aast (cv := 6) (t0 := 3) (E := "java/lang/Object") (Or.inr rfl) (fun _ => rfl) rfl (by decide) (fun G U H ht a b h1 h2 => ?_) hd hr hi hx kk
  obtain ⟨c0, t1, f1, f2, f3⟩ := Cond.castable_spec ht.2.2.2.2.2.2.2.1
  cases h1.symm.trans f1
  cases h2.symm.trans f2
  exact f3
theorem wp_aastoreF {i : Int32} {x : Nat} (hd : decode M.2.1 pc = .ok (.aastore, 1)) (hr : ab_ok n S r 11) (hi : vp_in i (S r).2) (hx : ab_ok n S x 2) (kk : wp fr lo mc ms M (pc + 1) L st (n, S, ab_u2 R r i.toNatClampNeg (some x), I) post) : wp fr lo mc ms M pc L (.ref x :: .int i :: .ref r :: st) (n, S, R, I) post := by
  refine ab_aast (cv := 2) (t0 := 2) (E := "LevelStore$FileRow") (Or.inl rfl) (fun _ => rfl) rfl (by decide) (fun G U H ht a b h1 h2 => ?_) hd hr hi hx kk
  have h1 : U.vm.findClass "LevelStore$FileRow" = some a := h1
  cases h1.symm.trans h2
  have hc := (ht.1.1 2 _ rfl).2
  have : U.vm.findClass "LevelStore$FileRow" = some ((ab_D G).1 2) := hc.1
  cases h1.symm.trans this
  exact va_assign hc
theorem wp_gets (hd : decode M.2.1 pc = .ok (.getstatic idx, 3)) (h1 : Cond.fieldLink M.1.cls idx "java/util/ArrayList" "DEFAULTCAPACITY_EMPTY_ELEMENTDATA" "[Ljava/lang/Object;" ∈ lw_g) (kk : wp fr lo mc ms M (pc + 3) L (.ref 0 :: st) (n, S, R, I) post) : wp fr lo mc ms M pc L st (n, S, R, I) post := by
  intro G p l e R1 s m args below meth c Q Cx hb hQ H locs cells slots ls hw hS hc hs hl
  obtain ⟨hx, hcode, -, -, -, -, hown, hts, -⟩ := id Cx
  obtain ⟨cf, kf, fi, f, a, cell, g1, g2, g3, g4, g5, g6, g7, g8⟩ := hw.2.2.2.1
  exact W.gets hx hcode hown (hts _ h1) g1 g2 g3 g4 g5 (fun e => by rw [e] at g6; cases g6) g7 rfl hd (kk G p l e R1 s m args below meth c Q Cx hb hQ H locs cells slots ls hw hS hc hs hl)
theorem wp_ldcM (hd : decode M.2.1 pc = .ok (.ldc idx, 2)) (h1 : Cond.classLink M.1.cls idx "[Ljava/lang/Object;" ∈ lw_g) (kk : wp fr lo mc ms M (pc + 2) L (.ref 1 :: st) (n, S, R, I) post) : wp fr lo mc ms M pc L st (n, S, R, I) post := by
  intro G p l e R1 s m args below meth c Q Cx hb hQ H locs cells slots ls hw hS hc hs hl
  obtain ⟨hx, hcode, -, -, -, -, hown, hts, -⟩ := id Cx
  exact va_ldcM hx hcode hown (hts _ h1) hw.2.2.2.2.2.1 hd (kk G p l e R1 s m args below meth c Q Cx hb hQ H locs cells slots ls hw hS hc hs hl)
theorem wp_acmpeq_s {x : Nat} {off : Int} {tgt : Nat} (hd : decode M.2.1 pc = .ok (.if_acmp .eq off, 3)) (ht : (pc : Int) + off = (tgt : Int)) (kk : wp fr lo mc ms M tgt L st (n, S, R, I) post) : wp fr lo mc ms M pc L (.ref x :: .ref x :: st) (n, S, R, I) post := by
  intro G p l e R1 s m args below meth c Q Cx hb hQ H locs cells slots ls hw hS hc hs hl
  exact lv_acmp_eq (rx := some (ab_R G x)) (ry := some (ab_R G x)) Cx.1 Cx.2.1 hd ht (fun _ => kk G p l e R1 s m args below meth c Q Cx hb hQ H locs cells slots ls hw hS hc hs hl) (fun h => absurd rfl h)
theorem wp_acmpne_s {x : Nat} {off : Int} {tgt : Nat} (hd : decode M.2.1 pc = .ok (.if_acmp .ne off, 3)) (ht : (pc : Int) + off = (tgt : Int)) (kk : wp fr lo mc ms M (pc + 3) L st (n, S, R, I) post) : wp fr lo mc ms M pc L (.ref x :: .ref x :: st) (n, S, R, I) post := by
  intro G p l e R1 s m args below meth c Q Cx hb hQ H locs cells slots ls hw hS hc hs hl
  exact lv_acmp_ne (rx := some (ab_R G x)) (ry := some (ab_R G x)) Cx.1 Cx.2.1 hd ht (fun h => absurd rfl h) (fun _ => kk G p l e R1 s m args below meth c Q Cx hb hQ H locs cells slots ls hw hS hc hs hl)
theorem ab_recv {G : ab_G} {U : State} {H : Heap} (hw : ab_w G (n, S, R, I) U H) (hr : ab_ok n S r ci) (hcl : vwCl[ci]? = some (C, T, N)) (h9 : ci < 9) : ∃ cell : Cell, H[ab_R G r]? = some cell ∧ cell.vm.isStatics = false ∧ U.vm.findClass C = some cell.cls := by
  have he := ab_W_get G (S := S) (R := R) (I := I) hr.1 hr.2.1
  rw [ab_E_obj hr.2.2 h9] at he
  exact va_recv hw.2.1 hw.1.2.2.1 hcl he
theorem wp_cast (hd : decode M.2.1 pc = .ok (.checkcast idx, 3)) (hK : ab_K ci C T N) (h1 : Cond.classLink M.1.cls idx C ∈ lw_g) (hr : ab_ok n S r ci) (kk : wp fr lo mc ms M (pc + 3) L (.ref r :: st) (n, S, R, I) post) : wp fr lo mc ms M pc L (.ref r :: st) (n, S, R, I) post := by
  intro G p l e R1 s m args below meth c Q Cx hb hQ H locs cells slots ls hw hS hc hs hl
  obtain ⟨hx, hcode, -, -, -, -, hown, hts, -⟩ := id Cx
  exact va_castS hx hcode hown (hts _ h1) (hw.2.1.1 ci _ hK.1).2 (ab_recv hw hr hK.1 hK.2.2.2.2.2) hd (kk G p l e R1 s m args below meth c Q Cx hb hQ H locs cells slots ls hw hS hc hs hl)
theorem ab_stw {G : ab_G} (st : List Value) : ((st.map (ab_V G)).map fun v => v.category).sum = (st.map fun v => v.category).sum := by
  rw [List.map_map]
  congr 1
  apply List.map_congr_left
  intro v _
  exact ab_V_cat G v
theorem wp_objInit (hd : decode M.2.1 pc = .ok (.invokespecial idx, 3)) (h1 : Cond.methodLink M.1.cls idx Lib.objectInit ∈ lw_g) (h2 : Cond.instanceMethod Lib.objectInit ∈ lw_g) (h3 : Cond.code Lib.objectInit ⟨#[0xb1]⟩ 1 none ∈ lw_g) (hf : 1 ≤ fr) (hlo : (st.map fun v => v.category).sum + 12 ≤ lo) (kk : wp fr lo mc ms M (pc + 3) L st (n, S, R, I) post) : wp fr lo mc ms M pc L (.ref r :: st) (n, S, R, I) post := by
  intro G p l e R1 s m args below meth c Q Cx hb hQ H locs cells slots ls hw hS hc hs hl
  obtain ⟨hx, hcode, hml, -, -, -, hown, hts, hfr, hloc⟩ := id Cx
  refine W.objInit hx hcode hown (hts _ h1) (hts _ h2) (hts _ h3) rfl (by rw [hml]; exact hl.1) rfl hd (by omega) ?_ (kk G p l e R1 s m args below meth c Q Cx hb hQ H locs cells slots ls hw hS hc hs hl)
  show 2 * 0 + _ + 12 ≤ _
  rw [ab_stw]
  omega
theorem wp_getC (hd : decode M.2.1 pc = .ok (.invokevirtual idx, 3)) (hr : ab_ok n S r 12) (h1 : Cond.methodLink M.1.cls idx ⟨"java/lang/Object", "getClass", "()Ljava/lang/Class;"⟩ ∈ lw_g)
    (h2 : Cond.selects "[Ljava/lang/Object;" ⟨"java/lang/Object", "getClass", "()Ljava/lang/Class;"⟩ ⟨"java/lang/Object", "getClass", "()Ljava/lang/Class;"⟩ ∈ lw_g) (h3 : Cond.instanceMethod ⟨"java/lang/Object", "getClass", "()Ljava/lang/Class;"⟩ ∈ lw_g) (h4 : Cond.native ⟨"java/lang/Object", "getClass", "()Ljava/lang/Class;"⟩ ∈ lw_g)
    (hf : 1 ≤ fr) (hlo : (st.map fun v => v.category).sum + 14 ≤ lo) (kk : wp fr lo mc ms M (pc + 3) L (.ref 1 :: st) (n, S, R, I) post) : wp fr lo mc ms M pc L (.ref r :: st) (n, S, R, I) post := by
  intro G p l e R1 s m args below meth c Q Cx hb hQ H locs cells slots ls hw hS hc hs hl
  obtain ⟨hx, hcode, hml, -, -, -, hown, hts, hfr, hloc⟩ := id Cx
  have he := ab_W_get G (S := S) (R := R) (I := I) hr.1 hr.2.1
  rw [ab_E_ref hr.2.2 (by decide) (by decide)] at he
  refine va_getC (C := "[Ljava/lang/Object;") hx hcode (by rw [hml]; exact hl.1.symm) hown (hts _ h1) (va_Dc.use hw.2.2.2.2.2.2.2.2.2) (hts _ h2) (hts _ h3) (hts _ h4) hw.2.2.2.2.2.1 ⟨_, hw.1.2.2.1 (r - 3) _ he, rfl, va_nmO (hw.2.1.2 3 _ rfl).2 (by decide +kernel)⟩ (by omega) ?_ hd (kk G p l e R1 s m args below meth c Q Cx hb hQ H locs cells slots ls hw hS hc hs hl)
  rw [ab_stw]
  omega
end AB3
