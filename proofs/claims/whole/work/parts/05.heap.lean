/-! RULES FOR CELLS -/
theorem ab_w_up {G : ab_G} {n r : Nat} {S : ab_SH} {R R' : ab_RR} {I I' : ab_II} {U : State} {H H1 : Heap} (hw : ab_w G (n, S, R, I) U H) (h3 : 3 ≤ r) (hz : H1.size = H.size) (ho : ∀ q : Nat, q ≠ ab_R G r → H1[q]? = H[q]?)
    (he : va_at (ab_D G) vwCl (ab_R G r, ab_E G S R' I' r) H1) (hR : ∀ j, j ≠ r → R' j = R j) (hI : ∀ j, j ≠ r → I' j = I j) : ab_w G (n, S, R', I') U H1 := by
  obtain ⟨⟨v1, v2, v3, v4⟩, ht⟩ := hw
  have hlow : ∀ q : Nat, ¬ ab_N G q → q ≠ ab_R G r := fun q hq e => hq (by rw [e, ab_R_big G h3]; exact Nat.le_add_right _ _)
  refine ⟨⟨v1, hz.trans v2, ab_P_up v3 h3 he ho (fun j hj => ab_E_congr rfl (hR j hj) (hI j hj)), ?_⟩, ht.kept (fun a _ ha => ho a (hlow a ha))⟩
  show va_X (ab_L G 2) (S 2).2 (I' 2) U H1
  rw [hI 2 (by omega)]
  exact v4.kept (ho _ (hlow _ (Nat.not_le.mpr (ht.2.1 2 (by omega) (by omega)))))
theorem ab_w_new {G : ab_G} {n kd len : Nat} {S : ab_SH} {R : ab_RR} {I : ab_II} {U : State} {H H1 : Heap} (hw : ab_w G (n, S, R, I) U H) (hz : H1.size = H.size + 1) (ho : ∀ q : Nat, q < H.size → H1[q]? = H[q]?)
    (he : va_at (ab_D G) vwCl (H.size, ab_E G (va_up S n (kd, len)) (va_up R n (fun _ => none)) (va_up I n (fun _ => 0)) n) H1) : ab_w G (n + 1, va_up S n (kd, len), va_up R n (fun _ => none), va_up I n (fun _ => 0)) U H1 := by
  obtain ⟨⟨v1, v2, v3, v4⟩, ht⟩ := hw
  have v1 : 3 ≤ n := v1
  have v2 : H.size = ab_B G + (n - 3) := v2
  have hlow : ∀ q : Nat, ¬ ab_N G q → q < H.size := fun q hq => by
    have : q < ab_B G := Nat.not_le.mp hq
    omega
  have ne : ∀ {α : Type} (f : Nat → α) (x : α) {j : Nat}, j ≠ n → va_up f n x j = f j := fun f x j hj => by simp [va_up, hj]
  refine ⟨⟨by show 3 ≤ n + 1; omega, by show H1.size = _; rw [hz, v2]; show _ = ab_B G + (n + 1 - 3); omega, ab_P_new v3 v1 v2 he ho (fun j hj => ab_E_congr (ne _ _ (by omega)) (ne _ _ (by omega)) (ne _ _ (by omega))), ?_⟩, ht.kept (fun a _ ha => ho a (hlow a ha))⟩
  show va_X (ab_L G 2) (va_up S n (kd, len) 2).2 (va_up I n (fun _ => 0) 2) U H1
  rw [ne _ _ (by omega), ne _ _ (by omega)]
  exact v4.kept (ho _ (hlow _ (Nat.not_le.mpr (ht.2.1 2 (by omega) (by omega)))))
theorem ab_S_new {A : Nat → Prop} {H0 H H1 : Heap} {locs : List Loc} (h : va_S A H0 H locs) (hz : H1.size = H.size + 1) (ho : ∀ q : Nat, q < H.size → H1[q]? = H[q]?) : va_S A H0 H1 locs :=
  ⟨Nat.le_trans h.1 (by omega), fun q h1 h2 => (ho q (Nat.lt_of_lt_of_le h1 h.1)).trans (h.2.1 q h1 h2), h.2.2⟩
theorem ab_R_N (G : ab_G) {r : Nat} (h : 3 ≤ r) : ab_N G (ab_R G r) := by rw [ab_R_big G h]; exact Nat.le_add_right _ _
theorem ab_fs_set {G : ab_G} {R R' : ab_RR} {I I' : ab_II} {ci r k N : Nat} {v : Value} (hk : k < N) (h1 : ab_F G R' I' ci r k = v) (h2 : ∀ i, i ≠ k → ab_F G R' I' ci r i = ab_F G R I ci r i) :
    ((List.range N).map (ab_F G R I ci r)).set k v = (List.range N).map (ab_F G R' I' ci r) := by
  apply List.ext_getElem?
  intro i
  by_cases hik : i = k
  · subst hik
    rw [List.getElem?_set_self (by simpa using hk), List.getElem?_map, List.getElem?_range hk, Option.map_some, h1]
  · rw [List.getElem?_set_ne (Ne.symm hik), List.getElem?_map, List.getElem?_map]
    by_cases hi : i < N
    · rw [List.getElem?_range hi, Option.map_some, Option.map_some, h2 i hik]
    · rw [List.getElem?_eq_none (by simpa using hi)]
      rfl
theorem ab_same {args : Array Value} {s : State} {ref own nm ds : String} (hts : ∀ w ∈ lw_g, w.before args s = true) (h : ref = own ∨ Cond.sameField ref own nm ds ∈ lw_g) : ∀ x, s.fieldFound? own nm ds = some x → s.fieldFound? ref nm ds = some x := by
  intro x hx
  rcases h with rfl | h
  · exact hx
  · exact u_same (hts _ h) x hx
section AB2
variable {fr lo mc ms : Nat} {M : ab_MT} {pc : Nat} {L : List (Nat × Value)} {st : List Value} {n : Nat} {S : ab_SH} {R : ab_RR} {I : ab_II} {post : ab_Po} {idx ci k r : Nat} {C : String} {T : u_T} {N : Nat}
theorem wp_getI (hd : decode M.2.1 pc = .ok (.getfield idx, 3)) (hF : ab_FL M.1.cls idx ci k C T N) (hr : ab_ok n S r ci) (ht : ab_isR ci k = false) (kk : wp fr lo mc ms M (pc + 3) L (.int (I r k) :: st) (n, S, R, I) post) : wp fr lo mc ms M pc L (.ref r :: st) (n, S, R, I) post := by
  intro G p l e R1 s m args below meth c Q Cx hb hQ H locs cells slots ls hw hS hc hs hl
  obtain ⟨hx, hcode, -, -, -, -, hown, hts, -⟩ := id Cx
  obtain ⟨⟨k1, k2, k3, k4, k5, k6⟩, hk, ref, hl1, hl2⟩ := hF
  have he := ab_W_get G (S := S) (R := R) (I := I) hr.1 hr.2.1
  rw [ab_E_obj hr.2.2 k6] at he
  refine va_get (D := ab_D G) (cl := vwCl) hx hcode hts k3 hown hw.2.1 hw.1.2.2.1 (r - 3) he k1 k hk (hts _ hl1) (ab_same hts hl2) (v := .int (I r k)) ?_ hd (kk G p l e R1 s m args below meth c Q Cx hb hQ H locs cells slots ls hw hS hc hs hl)
  rw [List.getElem?_map, List.getElem?_range (by omega), Option.map_some]
  simp [ab_F, ht]
theorem wp_getR {x : Nat} (hd : decode M.2.1 pc = .ok (.getfield idx, 3)) (hF : ab_FL M.1.cls idx ci k C T N) (hr : ab_ok n S r ci) (ht : ab_isR ci k = true) (hx : R r k = some x) (kk : wp fr lo mc ms M (pc + 3) L (.ref x :: st) (n, S, R, I) post) : wp fr lo mc ms M pc L (.ref r :: st) (n, S, R, I) post := by
  intro G p l e R1 s m args below meth c Q Cx hb hQ H locs cells slots ls hw hS hc hs hl
  obtain ⟨hx1, hcode, -, -, -, -, hown, hts, -⟩ := id Cx
  obtain ⟨⟨k1, k2, k3, k4, k5, k6⟩, hk, ref, hl1, hl2⟩ := hF
  have he := ab_W_get G (S := S) (R := R) (I := I) hr.1 hr.2.1
  rw [ab_E_obj hr.2.2 k6] at he
  refine va_get (D := ab_D G) (cl := vwCl) hx1 hcode hts k3 hown hw.2.1 hw.1.2.2.1 (r - 3) he k1 k hk (hts _ hl1) (ab_same hts hl2) (v := .ref (ab_R G x)) ?_ hd (kk G p l e R1 s m args below meth c Q Cx hb hQ H locs cells slots ls hw hS hc hs hl)
  rw [List.getElem?_map, List.getElem?_range (by omega), Option.map_some]
  simp [ab_F, ht, hx, va_rf]
/-- putfield, down to the cell -/
theorem ab_put {p : Program} {l : Launch} {e : Env} {R1 : Room} {s : State} {m : MethodId} {args : Array Value} {below : List Frame} {meth : Method} {c : Code} {Q : State → Prop} {G : ab_G} {H : Heap} {locs : List Loc} {cells slots : Nat} {ls : Array Slot} {rest : List Value} {v : Value}
    (Cx : ab_C fr lo M p R1 s m args meth c) (hd : decode M.2.1 pc = .ok (.putfield idx, 3)) (hF : ab_FL M.1.cls idx ci k C T N) (hr : ab_ok n S r ci) (hf : (T k).2.2.2 = false ∨ ((T k).2.2.2 = true ∧ M.1.name = "<init>" ∧ (T k).1 = M.1.cls)) (hn : narrow (ab_ty ci k) v = v) (hfit : fits (ab_ty ci k) v = true)
    (hw : ab_w G (n, S, R, I) s H) (hS : va_S (ab_N G) s.heap H locs)
    (kk : ∀ (H1 : Heap) (locs1 : List Loc), va_at (ab_D G) vwCl (ab_R G r, .inr (ci, ((List.range (ab_nf ci)).map (ab_F G R I ci r)).set k v)) H1 → H1.size = H.size → (∀ q : Nat, q ≠ ab_R G r → H1[q]? = H[q]?) → va_S (ab_N G) s.heap H1 locs1 → W p l e R1 s m args below meth c H1 locs1 cells slots Q (F0 m (pc + 3) ls rest)) :
    W p l e R1 s m args below meth c H locs cells slots Q (F0 m pc ls (v :: .ref (ab_R G r) :: rest)) := by
  obtain ⟨hx, hcode, -, -, -, hnm, hown, hts, -⟩ := id Cx
  obtain ⟨⟨k1, k2, k3, k4, k5, k6⟩, hk, ref, hl1, hl2⟩ := hF
  have he := ab_W_get G (S := S) (R := R) (I := I) hr.1 hr.2.1
  rw [ab_E_obj hr.2.2 k6] at he
  have hK := hw.2.1
  have hap := va_apart (own := M.1.cls) hts k3 (ab_ty ci) k4 k5 hK k1
  obtain ⟨r', h1, cell, q1, q2, q3, q4⟩ := hw.1.2.2.1 (r - 3) _ he
  have hr' : r' = (C, T, N) := Option.some.inj (h1.symm.trans k1)
  subst hr'
  obtain ⟨hSl, hfc, kC, hkC, hkind⟩ := hK.1 ci _ k1
  obtain ⟨cf, kf, fi, f, hi, hsl⟩ := hSl k hk
  have hlay := hts _ (k3 _ (u_in_lay hk))
  unfold u_lay at hlay
  have hst := (u_facts hfc hkC (u_lays hts k3 hk) hi).1
  have hlen : k < ((List.range (ab_nf ci)).map (ab_F G R I ci r)).length := by simp; omega
  rcases hf with hf | ⟨hf, hin, hdecl⟩
  · rw [if_neg (by rw [hf]; decide)] at hlay
    have h6 := u_store hfc hkC hkind hlay hi (k4 k hk) hn hfit
    refine W.putK hx hcode (f := f) ⟨hown, hts _ hl1, ⟨_, _, _, ab_same hts hl2 _ hi⟩, hst⟩ (by rw [q2]; exact h6) q1 q3 (by rw [hsl]; exact k2_hasslot (q4 k hk)) rfl rfl hd fun H' e1 e2 e3 => ?_
    rw [hsl] at e1 ⊢
    exact kk H' _ ⟨_, k1, t_OB.to (V := updV (vp_V _) k v) ⟨_, e1, q2, q3, t_set q4 hap hk v⟩ (fun j _ => vp_updV_set hlen v j)⟩ e2 e3 (hS.put e2 e3 (ab_R_N G hr.1))
  · rw [if_pos hf] at hlay
    have hcf : m.cls = cf := by
      obtain ⟨_, _, c', _, _, _, -, -, hf', -, -, -, hown2, -⟩ := Cond.laysFinal_spec hlay
      have e1 : c' = cf := by have := hi.symm.trans hf'; simp at this; exact this.1.symm
      rw [hdecl] at hown2
      rw [← e1]; exact Option.some.inj (hown.symm.trans hown2)
    have h6 := u_fits hfc hkC hkind (Or.inr hlay) hi (k4 k hk) hn hfit
    refine W.putFinK hx hcode hown (hts _ hl1) (ab_same hts hl2 _ hi) hst hcf (hnm.trans hin) (by rw [q2]; exact h6) q1 q3 (by rw [hsl]; exact k2_hasslot (q4 k hk)) rfl rfl hd fun H' e1 e2 e3 => ?_
    rw [hsl] at e1 ⊢
    exact kk H' _ ⟨_, k1, t_OB.to (V := updV (vp_V _) k v) ⟨_, e1, q2, q3, t_set q4 hap hk v⟩ (fun j _ => vp_updV_set hlen v j)⟩ e2 e3 (hS.put e2 e3 (ab_R_N G hr.1))
theorem wp_putI {x : Int32} (hd : decode M.2.1 pc = .ok (.putfield idx, 3)) (hF : ab_FL M.1.cls idx ci k C T N) (hr : ab_ok n S r ci) (ht : ab_isR ci k = false) (hf : (T k).2.2.2 = false) (hv : ab_ty ci k = .int ∨ (ab_ty ci k = .boolean ∧ (x = 0 ∨ x = 1))) (kk : wp fr lo mc ms M (pc + 3) L st (n, S, R, ab_u2 I r k x) post) : wp fr lo mc ms M pc L (.int x :: .ref r :: st) (n, S, R, I) post := by
  intro G p l e R1 s m args below meth c Q Cx hb hQ H locs cells slots ls hw hS hc hs hl
  have hnf : narrow (ab_ty ci k) (.int x) = .int x ∧ fits (ab_ty ci k) (.int x) = true := by
    rcases hv with h | ⟨h, h2⟩
    · rw [h]; exact ⟨rfl, rfl⟩
    · rw [h]; rcases h2 with rfl | rfl <;> exact ⟨rfl, rfl⟩
  refine ab_put Cx hd hF hr (Or.inl hf) hnf.1 hnf.2 hw hS (fun H1 locs1 a1 a2 a3 a4 => ?_)
  refine kk G p l e R1 s m args below meth c Q Cx hb hQ H1 locs1 cells slots ls (ab_w_up hw hr.1 a2 a3 ?_ (fun _ _ => rfl) (fun j hj => ab_u2_r I x hj)) a4 hc hs hl
  have k6 := hF.1.2.2.2.2.2
  have hk : k < ab_nf ci := by rw [← hF.1.2.1]; exact hF.2.1
  rw [ab_E_obj hr.2.2 k6]
  rw [ab_fs_set (R' := R) (I' := ab_u2 I r k x) hk (by simp [ab_F, ht, ab_u2_s, ab_V]) (fun i hi => by simp [ab_F, ab_u2_n I x (Or.inr hi)])] at a1
  exact a1
theorem ab_rt_ok {t : FieldType} (h : ab_rt t = true) (x : Nat) : narrow t (.ref x) = .ref x ∧ fits t (.ref x) = true := by
  cases t <;> first | (simp [ab_rt] at h; done) | exact ⟨rfl, rfl⟩
theorem wp_putR {x : Nat} (hd : decode M.2.1 pc = .ok (.putfield idx, 3)) (hF : ab_FL M.1.cls idx ci k C T N) (hr : ab_ok n S r ci) (ht : ab_isR ci k = true) (hf : (T k).2.2.2 = false ∨ ((T k).2.2.2 = true ∧ M.1.name = "<init>" ∧ (T k).1 = M.1.cls)) (kk : wp fr lo mc ms M (pc + 3) L st (n, S, ab_u2 R r k (some x), I) post) : wp fr lo mc ms M pc L (.ref x :: .ref r :: st) (n, S, R, I) post := by
  intro G p l e R1 s m args below meth c Q Cx hb hQ H locs cells slots ls hw hS hc hs hl
  have hnf := ab_rt_ok ht (ab_R G x)
  refine ab_put Cx hd hF hr hf hnf.1 hnf.2 hw hS (fun H1 locs1 a1 a2 a3 a4 => ?_)
  refine kk G p l e R1 s m args below meth c Q Cx hb hQ H1 locs1 cells slots ls (ab_w_up hw hr.1 a2 a3 ?_ (fun j hj => ab_u2_r R (some x) hj) (fun _ _ => rfl)) a4 hc hs hl
  have k6 := hF.1.2.2.2.2.2
  have hk : k < ab_nf ci := by rw [← hF.1.2.1]; exact hF.2.1
  rw [ab_E_obj hr.2.2 k6]
  rw [ab_fs_set (R' := ab_u2 R r k (some x)) (I' := I) hk (by simp [ab_F, ht, ab_u2_s, va_rf, ab_V]) (fun i hi => by simp [ab_F, ab_u2_n R (some x) (Or.inr hi)])] at a1
  exact a1
theorem ab_tyI {G : ab_G} : (ab_tys G)[0]? = some (ab_A G 9, .int) := rfl
theorem wp_iaload {i : Int32} (hd : decode M.2.1 pc = .ok (.iaload, 1)) (hr : ab_ok n S r 9) (hi : vp_in i (S r).2) (kk : wp fr lo mc ms M (pc + 1) L (.int (I r i.toNatClampNeg) :: st) (n, S, R, I) post) : wp fr lo mc ms M pc L (.int i :: .ref r :: st) (n, S, R, I) post := by
  intro G p l e R1 s m args below meth c Q Cx hb hQ H locs cells slots ls hw hS hc hs hl
  have he := ab_W_get G (S := S) (R := R) (I := I) hr.1 hr.2.1
  rw [ab_E_int hr.2.2 (by decide) (by decide)] at he
  exact va_iald Cx.1 Cx.2.1 hw.2.1 hw.1.2.2.1 (r - 3) 0 he rfl hi hd (kk G p l e R1 s m args below meth c Q Cx hb hQ H locs cells slots ls hw hS hc hs hl)
theorem wp_baload {i : Int32} (hd : decode M.2.1 pc = .ok (.baload, 1)) (hr : ab_ok n S r 10) (hi : vp_in i (S r).2) (kk : wp fr lo mc ms M (pc + 1) L (.int (I r i.toNatClampNeg) :: st) (n, S, R, I) post) : wp fr lo mc ms M pc L (.int i :: .ref r :: st) (n, S, R, I) post := by
  intro G p l e R1 s m args below meth c Q Cx hb hQ H locs cells slots ls hw hS hc hs hl
  have he := ab_W_get G (S := S) (R := R) (I := I) hr.1 hr.2.1
  rw [ab_E_int hr.2.2 (by decide) (by decide)] at he
  exact va_zald Cx.1 Cx.2.1 hw.2.1 hw.1.2.2.1 (r - 3) 1 he rfl hi hd (kk G p l e R1 s m args below meth c Q Cx hb hQ H locs cells slots ls hw hS hc hs hl)
theorem ab_arr_up {G : ab_G} {f g : Nat → Int32} {j : Nat} {x : Int32} {cA : ClassId} {len : Nat} (h1 : g j = x) (h2 : ∀ i, i ≠ j → g i = f i) : (vp_cell cA (len, .inl f)).setSlot j (.int x) = vp_cell cA (len, .inl g) := by
  rw [vp_cell_i, vp_cell_i, arrV_store]
  congr 1
  funext q
  by_cases hq : q = j
  · subst hq
    simp [updV, h1]
  · simp [updV, hq, h2 q hq]
theorem wp_iastore {i x : Int32} (hd : decode M.2.1 pc = .ok (.iastore, 1)) (hr : ab_ok n S r 9) (hi : vp_in i (S r).2) (kk : wp fr lo mc ms M (pc + 1) L st (n, S, R, ab_u2 I r i.toNatClampNeg x) post) : wp fr lo mc ms M pc L (.int x :: .int i :: .ref r :: st) (n, S, R, I) post := by
  intro G p l e R1 s m args below meth c Q Cx hb hQ H locs cells slots ls hw hS hc hs hl
  have he := ab_W_get G (S := S) (R := R) (I := I) hr.1 hr.2.1
  rw [ab_E_int hr.2.2 (by decide) (by decide)] at he
  refine W.iast Cx.1 Cx.2.1 (hw.1.2.2.1 (r - 3) _ he) ((hw.2.1.2 0 _ rfl).1 _ (fun j => .int (I r j))) (fun q => by cases q) (by show ¬ (i < 0 ∨ (arrV _ _ _).slots.size ≤ _); rw [arrV_size]; exact hi) rfl rfl hd fun H1 e1 e2 e3 => ?_
  refine kk G p l e R1 s m args below meth c Q Cx hb hQ H1 _ cells slots ls (ab_w_up hw hr.1 e2 e3 ?_ (fun _ _ => rfl) (fun j hj => ab_u2_r I x hj)) (hS.put e2 e3 (ab_R_N G hr.1)) hc hs hl
  rw [ab_E_int hr.2.2 (by decide) (by decide)]
  refine e1.trans ?_
  rw [ab_arr_up (G := G) (g := ab_u2 I r i.toNatClampNeg x r) (ab_u2_s I r _ x) (fun j hj => ab_u2_n I x (Or.inr hj))]
theorem wp_bastore {i x : Int32} (hd : decode M.2.1 pc = .ok (.bastore, 1)) (hr : ab_ok n S r 10) (hi : vp_in i (S r).2) (hx : x = 0 ∨ x = 1) (kk : wp fr lo mc ms M (pc + 1) L st (n, S, R, ab_u2 I r i.toNatClampNeg x) post) : wp fr lo mc ms M pc L (.int x :: .int i :: .ref r :: st) (n, S, R, I) post := by
  intro G p l e R1 s m args below meth c Q Cx hb hQ H locs cells slots ls hw hS hc hs hl
  have he := ab_W_get G (S := S) (R := R) (I := I) hr.1 hr.2.1
  rw [ab_E_int hr.2.2 (by decide) (by decide)] at he
  refine W.zast Cx.1 Cx.2.1 (hw.1.2.2.1 (r - 3) _ he) ((hw.2.1.2 1 _ rfl).1 _ (fun j => .int (I r j))) (fun q => by cases q) (by show ¬ (i < 0 ∨ (arrV _ _ _).slots.size ≤ _); rw [arrV_size]; exact hi) rfl rfl hd fun H1 e1 e2 e3 => ?_
  refine kk G p l e R1 s m args below meth c Q Cx hb hQ H1 _ cells slots ls (ab_w_up hw hr.1 e2 e3 ?_ (fun _ _ => rfl) (fun j hj => ab_u2_r I x hj)) (hS.put e2 e3 (ab_R_N G hr.1)) hc hs hl
  rw [ab_E_int hr.2.2 (by decide) (by decide)]
  have hnar : narrow .boolean (.int x) = .int x := by rcases hx with rfl | rfl <;> rfl
  rw [hnar] at e1
  refine e1.trans ?_
  rw [ab_arr_up (G := G) (g := ab_u2 I r i.toNatClampNeg x r) (ab_u2_s I r _ x) (fun j hj => ab_u2_n I x (Or.inr hj))]
theorem wp_aaload {i : Int32} {x : Nat} (hd : decode M.2.1 pc = .ok (.aaload, 1)) (hr : ab_ok n S r 11 ∨ ab_ok n S r 12) (hi : vp_in i (S r).2) (hx : R r i.toNatClampNeg = some x) (kk : wp fr lo mc ms M (pc + 1) L (.ref x :: st) (n, S, R, I) post) : wp fr lo mc ms M pc L (.int i :: .ref r :: st) (n, S, R, I) post := by
  intro G p l e R1 s m args below meth c Q Cx hb hQ H locs cells slots ls hw hS hc hs hl
  have ev : va_rf ((R r i.toNatClampNeg).map (ab_R G)) = .ref (ab_R G x) := by rw [hx]; rfl
  have kk' := kk G p l e R1 s m args below meth c Q Cx hb hQ H locs cells slots ls hw hS hc hs hl
  rcases hr with hr | hr
  · have he := ab_W_get G (S := S) (R := R) (I := I) hr.1 hr.2.1
    rw [ab_E_ref hr.2.2 (by decide) (by decide)] at he
    refine va_aldq Cx.1 Cx.2.1 hw.2.1 hw.1.2.2.1 (r - 3) 2 he rfl hi hd ?_
    rw [ev]
    exact kk'
  · have he := ab_W_get G (S := S) (R := R) (I := I) hr.1 hr.2.1
    rw [ab_E_ref hr.2.2 (by decide) (by decide)] at he
    refine va_aldq Cx.1 Cx.2.1 hw.2.1 hw.1.2.2.1 (r - 3) 3 he rfl hi hd ?_
    rw [ev]
    exact kk'
theorem wp_alen (hd : decode M.2.1 pc = .ok (.arraylength, 1)) (hr : ab_ok n S r 9 ∨ ab_ok n S r 10 ∨ ab_ok n S r 11 ∨ ab_ok n S r 12) (kk : wp fr lo mc ms M (pc + 1) L (.int (Int32.ofNat (S r).2) :: st) (n, S, R, I) post) : wp fr lo mc ms M pc L (.ref r :: st) (n, S, R, I) post := by
  intro G p l e R1 s m args below meth c Q Cx hb hQ H locs cells slots ls hw hS hc hs hl
  have kk' := kk G p l e R1 s m args below meth c Q Cx hb hQ H locs cells slots ls hw hS hc hs hl
  rcases hr with hr | hr | hr | hr
  · have he := ab_W_get G (S := S) (R := R) (I := I) hr.1 hr.2.1
    rw [ab_E_int hr.2.2 (by decide) (by decide)] at he
    exact va_alen Cx.1 Cx.2.1 hw.2.1 hw.1.2.2.1 (r - 3) 0 he rfl rfl hd kk'
  · have he := ab_W_get G (S := S) (R := R) (I := I) hr.1 hr.2.1
    rw [ab_E_int hr.2.2 (by decide) (by decide)] at he
    exact va_alen Cx.1 Cx.2.1 hw.2.1 hw.1.2.2.1 (r - 3) 1 he rfl rfl hd kk'
  · have he := ab_W_get G (S := S) (R := R) (I := I) hr.1 hr.2.1
    rw [ab_E_ref hr.2.2 (by decide) (by decide)] at he
    exact va_alen Cx.1 Cx.2.1 hw.2.1 hw.1.2.2.1 (r - 3) 2 he rfl rfl hd kk'
  · have he := ab_W_get G (S := S) (R := R) (I := I) hr.1 hr.2.1
    rw [ab_E_ref hr.2.2 (by decide) (by decide)] at he
    exact va_alen Cx.1 Cx.2.1 hw.2.1 hw.1.2.2.1 (r - 3) 3 he rfl rfl hd kk'
theorem wp_alen0 (hd : decode M.2.1 pc = .ok (.arraylength, 1)) (kk : wp fr lo mc ms M (pc + 1) L (.int 0 :: st) (n, S, R, I) post) : wp fr lo mc ms M pc L (.ref 0 :: st) (n, S, R, I) post := by
  intro G p l e R1 s m args below meth c Q Cx hb hQ H locs cells slots ls hw hS hc hs hl
  obtain ⟨cell, g1, g2, -, -, g3, -⟩ := hw.2.2.2.2.1
  exact W.alen (n := 0) Cx.1 Cx.2.1 g1 g2 g3 rfl rfl hd (kk G p l e R1 s m args below meth c Q Cx hb hQ H locs cells slots ls hw hS hc hs hl)
theorem wp_slen (hd : decode M.2.1 pc = .ok (.arraylength, 1)) (kk : wp fr lo mc ms M (pc + 1) L (.int (Int32.ofNat (S 2).2) :: st) (n, S, R, I) post) : wp fr lo mc ms M pc L (.ref 2 :: st) (n, S, R, I) post := by
  intro G p l e R1 s m args below meth c Q Cx hb hQ H locs cells slots ls hw hS hc hs hl
  obtain ⟨scr, g1, g2, g3, g4, g5⟩ := hw.1.2.2.2
  exact W.alen (n := Int32.ofNat (S 2).2) Cx.1 Cx.2.1 g1 g2 (by rw [g4] <;> rfl) rfl rfl hd (kk G p l e R1 s m args below meth c Q Cx hb hQ H locs cells slots ls hw hS hc hs hl)
theorem wp_saload {i : Int32} (hd : decode M.2.1 pc = .ok (.iaload, 1)) (hi : vp_in i (S 2).2) (kk : wp fr lo mc ms M (pc + 1) L (.int (I 2 i.toNatClampNeg) :: st) (n, S, R, I) post) : wp fr lo mc ms M pc L (.int i :: .ref 2 :: st) (n, S, R, I) post := by
  intro G p l e R1 s m args below meth c Q Cx hb hQ H locs cells slots ls hw hS hc hs hl
  obtain ⟨scr, g1, g2, g3, g4, g5⟩ := hw.1.2.2.2
  have hlt : i.toNatClampNeg < (S 2).2 := Nat.not_le.mp fun q => hi (Or.inr q)
  exact W.iald (v := .int (I 2 i.toNatClampNeg)) Cx.1 Cx.2.1 g1 g2 g3 (by rw [g4]; exact hi) (g5 _ hlt) rfl rfl hd (kk G p l e R1 s m args below meth c Q Cx hb hQ H locs cells slots ls hw hS hc hs hl)
end AB2
