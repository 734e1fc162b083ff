/-! install, whole -/
theorem cv_retireN {fr lo mc ms fr' lo' mc' ms' pc n r : Nat} {M : ab_MT} {L : List (Nat × Value)} {st : List Value} {S : ab_SH} {R : ab_RR} {I : ab_II} {post post' : ab_Po} {x2 : Int32} {x3 : Int32} (kk' : wp fr' lo' mc' ms' MX6_retire 0 [(0, .ref r), (1, .null), (2, .int x2), (3, .int x3)] [] (n, S, R, I) post') (hM : M.1.cls = "LevelStore") (hd : decode M.2.1 pc = .ok (.invokevirtual 192, 3)) (hr : ab_ok n S r 7) (hro : fr' + 1 ≤ fr ∧ 25 + lo' ≤ lo ∧ mc' ≤ mc ∧ ms' ≤ ms) (hst : (st.map fun v => v.category).sum ≤ 8)
    (kk : ∀ v h, post' v h → wp fr lo (mc - mc') (ms - ms') M (pc + 3) L (v.toList ++ st) h post) : wp fr lo mc ms M pc L (.int x3 :: .int x2 :: .null :: .ref r :: st) (n, S, R, I) post := by
  have e1 : Cond.methodLink M.1.cls 192 yX6_retire ∈ lw_g := by rw [hM]; exact ml_LevelStore_192
  exact wp_callV (ci := 7) (C := RX6) (T := TX6) (N := 10) (K := MX6_retire) (a := 3) (as := [.null, .int x2, .int x3]) (fr' := fr') (lo' := lo') (mc' := mc') (ms' := ms') kk' hd mk_X6_retire ab_k7 rfl e1 im_X6_retire se_X6_retire (by show 4 ≤ 6; decide) rfl hr ⟨hro.1, (by have h2 := hro.2.1; show 8 + (6 + 11) + lo' ≤ lo; omega), hro.2.2⟩ hst rfl kk
section IN3
variable {σ : St} {n : Nat} {S : ab_SH} {R : ab_RR} {I : ab_II} {A : AC} {P : Nat → List Nat} {sp : List FA}
def posOK (σ : St) : Prop := σ.tgt ≤ 3 ∧ (σ.tgt ≠ 0 → σ.lf ≤ σ.lt ∧ σ.lt ≤ (σ.FS (σ.tgt - 1)).length) ∧ σ.tf ≤ σ.tt ∧ σ.tt ≤ (σ.FS σ.tgt).length ∧ (σ.tgt = 0 → σ.src.length ≤ σ.log.length)
theorem cut_nil (l : List FA) (a b : Nat) : cutF l a b [] = l.take a ++ l.drop b := by simp [cutF]
/-- after the first retiring -/
theorem s_inst_B (h : RC σ n S R I A P sp) (hj : σ.job = true) (hp : posOK σ) (hl : σ.log.length ≤ 24) (hs : σ.syn ≤ σ.log.length)
    {n1 : Nat} {S1 : ab_SH} {R1 : ab_RR} {I1 : ab_II} {A1 : AC} {P1 : Nat → List Nat} {FS1 : Nat → List FA} (he1 : ab_ex n S R n1 S1 R1) (hLF1 : LF n1 S1 R1 I1 A1 P1 FS1) (hF1 : ∀ j, j ≠ 4 → FS1 j = (if σ.tgt = 0 then σ.FS else va_up σ.FS (σ.tgt - 1) (cutF (σ.FS (σ.tgt - 1)) σ.lf σ.lt [])) j) (hT1 : TK (I1 22) FS1) (hPL1 : PLC FS1) (hI1 : ∀ j, j < 66 → j ∉ [11, 13, 15, 17, 19, 22] → I1 j = I j) (htp : tot P1 ≤ 331) (L : List (Nat × Value)) (hL : ab_sub L [(0, .ref 3), (1, .int (nI (σ.FS 5).length))]) (mc ms : Nat) (hmc : 200 ≤ mc) (hms : 4000 ≤ ms) :
    wp 9 219 mc ms MX6_install 63 L [] (n1, S1, R1, I1) (cP I n S R (nI (σ.FS 5).length, σ.insD.fin)) := by
  refine wp_loc hL ?_
  obtain ⟨p1, p2, p3, p4, p5⟩ := hp
  have hX1 := h.fx.ex he1
  have e27 : I1 27 = I 27 := hI1 27 (by decide) (by decide)
  obtain ⟨j1, j2, j3, j4, j5⟩ := h.cj.2.2 hj
  have hlv : isLv (nI σ.tgt) := ⟨by rw [tI_n (by omega)]; omega, by rw [tI_n (by omega)]; omega⟩
  have et : (nI σ.tgt).toInt.toNat = σ.tgt := by rw [tI_n (by omega)]; rfl
  have hlk : lvk σ.tgt := Or.inl (by omega)
  have hFt : FS1 σ.tgt = σ.FS σ.tgt := by
    rw [hF1 _ (by omega)]
    split
    · rfl
    · rw [up_ne (by omega)]
  have hF5 : FS1 5 = σ.FS 5 := by
    rw [hF1 _ (by decide)]
    split
    · rfl
    · rw [up_ne (by omega)]
  have hX := h.fx
  have q1 : pC A1 4 ≤ 100 := by unfold pC; omega
  have q2 : pS A1 4 ≤ 2000 := by unfold pS; omega
  first | refine wp_aload_n (pc := 63) dX6_install_63 rfl ?_ | refine wp_aload_nN (pc := 63) dX6_install_63 rfl ?_
  first | refine wp_aload_n (pc := 64) dX6_install_64 rfl ?_ | refine wp_aload_nN (pc := 64) dX6_install_64 rfl ?_
  refine wp_getR (pc := 65) dX6_install_65 fl_LevelStore_50 (by first | assumption | exact Fx.ok (by assumption) (by decide)) rfl (by first | assumption | exact Fx.ref (by assumption) rfl) ?_
  refine wp_getI (pc := 68) dX6_install_68 fl_LevelStore_196 (by first | assumption | exact Fx.ok (by assumption) (by decide)) rfl ?_
  rw [show I1 27 4 = nI σ.tgt by rw [e27]; exact j3]
  refine cv_LevelStore_146 (pc := 71) (s_levelAt hX1 hlv) rfl dX6_install_71 (by first | assumption | exact Fx.ok (by assumption) (by decide)) ⟨by decide, by decide, Nat.zero_le _, Nat.zero_le _⟩ (Nat.le_of_ble_eq_true rfl) (fun v h hp => ?_)
  obtain ⟨rfl, rfl⟩ := hp
  rw [et]
  first | refine wp_astore_n (pc := 74) dX6_install_74 (by decide) rfl ?_ | refine wp_astore_nN (pc := 74) dX6_install_74 (by decide) rfl ?_
  first | refine wp_aload_n (pc := 75) dX6_install_75 rfl ?_ | refine wp_aload_nN (pc := 75) dX6_install_75 rfl ?_
  first | refine wp_aload_n (pc := 76) dX6_install_76 rfl ?_ | refine wp_aload_nN (pc := 76) dX6_install_76 rfl ?_
  first | refine wp_aload_n (pc := 77) dX6_install_77 rfl ?_ | refine wp_aload_nN (pc := 77) dX6_install_77 rfl ?_
  refine wp_getR (pc := 78) dX6_install_78 fl_LevelStore_50 (by first | assumption | exact Fx.ok (by assumption) (by decide)) rfl (by first | assumption | exact Fx.ref (by assumption) rfl) ?_
  refine wp_getI (pc := 81) dX6_install_81 fl_LevelStore_118 (by first | assumption | exact Fx.ok (by assumption) (by decide)) rfl ?_
  first | refine wp_aload_n (pc := 84) dX6_install_84 rfl ?_ | refine wp_aload_nN (pc := 84) dX6_install_84 rfl ?_
  refine wp_getR (pc := 85) dX6_install_85 fl_LevelStore_50 (by first | assumption | exact Fx.ok (by assumption) (by decide)) rfl (by first | assumption | exact Fx.ref (by assumption) rfl) ?_
  refine wp_getI (pc := 88) dX6_install_88 fl_LevelStore_121 (by first | assumption | exact Fx.ok (by assumption) (by decide)) rfl ?_
  rw [show I1 27 5 = nI σ.tf by rw [e27]; exact j4, show I1 27 6 = nI σ.tt by rw [e27]; exact j5]
  refine cv_LevelStore_192 (pc := 91) (s_X6_retire hX1 hLF1 (k := σ.tgt) (a := σ.tf) (b := σ.tt) hlk p3 (by rw [hFt]; exact p4) hT1 hPL1 htp) rfl dX6_install_91 (by first | assumption | exact Fx.ok (by assumption) (by decide)) ⟨by decide, by decide, by omega, by omega⟩ (Nat.le_of_ble_eq_true rfl) (fun v h hp => ?_)
  obtain ⟨rfl, n2, S2, R2, I2, A2, P2, FS2, rfl, he2, hLF2, hFS2, hFo2, hTK2, hPL2, hI2, hA2, ht2⟩ := hp
  refine wp_iconst (pc := 94) (v := 0) dX6_install_94 (by decide) ?_
  refine wp_istore_n (pc := 95) dX6_install_95 (by decide) rfl ?_
  have hxt := xk_in (k := σ.tgt) (by omega)
  have hxe : xk σ.tgt = 11 ∨ xk σ.tgt = 13 ∨ xk σ.tgt = 15 ∨ xk σ.tgt = 17 := by rcases (show σ.tgt = 0 ∨ σ.tgt = 1 ∨ σ.tgt = 2 ∨ σ.tgt = 3 by omega) with z | z | z | z <;> rw [z] <;> decide
  have hI2' : ∀ j, j < 66 → j ∉ [11, 13, 15, 17, 19, 22] → I2 j = I j := fun j hj hjn => by
    rw [hI2 j hj (by simp at hjn; simp; omega)]; exact hI1 j hj hjn
  rw [hFt] at hFS2
  have hl5 : (P2 5).length = (FS2 5).length := (hLF2.1 5 (by decide)).2.1.1
  have hlt : (P2 σ.tgt).length = (FS2 σ.tgt).length := (hLF2.1 _ (by omega)).2.1.1
  have hF52 : FS2 5 = σ.FS 5 := by rw [hFo2 5 (by omega) (by decide)]; exact hF5
  have htake : (FS2 σ.tgt).take σ.tf = (σ.FS σ.tgt).take σ.tf := by rw [hFS2, List.take_append_of_le_length (by rw [List.length_take]; omega), List.take_take, Nat.min_self]
  have hdrop : (FS2 σ.tgt).drop σ.tf = (σ.FS σ.tgt).drop σ.tt := by
    have e := List.drop_left (l₁ := (σ.FS σ.tgt).take σ.tf) (l₂ := (σ.FS σ.tgt).drop σ.tt)
    rw [List.length_take, Nat.min_eq_left (by omega), ← hFS2] at e
    exact e
  have hlen2 : (FS2 σ.tgt).length = σ.tf + ((σ.FS σ.tgt).length - σ.tt) := by rw [hFS2]; simp; omega
  have htot : (P2 σ.tgt).length + (P2 5).length ≤ tot P2 := by
    rcases (show σ.tgt = 0 ∨ σ.tgt = 1 ∨ σ.tgt = 2 ∨ σ.tgt = 3 by omega) with z | z | z | z <;> rw [z] <;> simp only [tot] <;> omega
  have z1 : pC A2 σ.tgt ≤ 100 := by unfold pC; omega
  have z2 : pS A2 σ.tgt ≤ 2000 := by unfold pS; omega
  refine s_inst_loop (t := σ.tgt) (tf := σ.tf) (m := (σ.FS 5).length) (by omega) ((P2 σ.tgt).take σ.tf) ((P2 σ.tgt).drop σ.tf) ((FS2 σ.tgt).take σ.tf) ((FS2 σ.tgt).drop σ.tf) (by rw [List.length_take]; omega) (by rw [List.length_take]; omega) (P2 5) (FS2 5) (by rw [hl5, hF52]) (by rw [hF52]) (by rw [List.length_take, List.length_drop]; rw [hF52] at hl5; omega) _ (P0 := P2) (FS0 := FS2) (n0 := n2) (S0 := S2) (R0 := R2) (I0 := I2) (fun n3 S3 R3 I3 A3 P3 FS3 mc3 ms3 he3 hX3 hLW3 hP3 hF3 hPo3 hI3 L3 hL3 => ?_) rfl rfl (σ.FS 5).length 0 _ n2 S2 R2 I2 A2 P2 FS2 _ _ _ (by omega) rfl ab_ex.rf (hX1.ex he2) hLF2.w (by simp) (by simp) (fun j hj => ⟨rfl, rfl⟩) (fun j _ _ => rfl) (by rw [hI2' 27 (by decide) (by decide)]; exact j4) (by omega) (by omega) ⟨rfl, rfl, rfl, rfl, trivial⟩
  have hI3' : ∀ j, j < 66 → j ∉ [11, 13, 15, 17, 19, 22] → I3 j = I j := fun j hj hjn => by
    rw [hI3 j hj (by simp at hjn; omega)]; exact hI2' j hj hjn
  obtain ⟨f0, hf0, -⟩ := h.sr
  refine s_inst_C hX3 hLW3 (log := σ.log) (syn := σ.syn) (tgt := σ.tgt) (sz := σ.src.length) p1 hl (by omega) (h.lg.keep (hI3' _ (by decide) (by decide)) (hI3' _ (by decide) (by decide)) (hI3' _ (by decide) (by decide)) (hI3' _ (by decide) (by decide))) (by rw [hI3' 3 (by decide) (by decide)]; exact h.c3.1) (by rw [hI3' 27 (by decide) (by decide)]; exact j1) (by rw [hI3' 28 (by decide) (by decide)]; exact hf0.1) p5 _ _ _ L3 hL3 (fun R4 I4 he4 hLW4 hI4 hr4 h41 h4k k1 k2 k3 k4 => ?_)
  have hI4' : ∀ j, j < 66 → j ∉ [11, 13, 15, 17, 19, 22, 3, 4, 5, 6, 7, 27, 28, 33, 38] → I4 j = I j := fun j hj hjn => by
    simp only [List.mem_cons, List.not_mem_nil, or_false, not_or] at hjn
    rw [hI4 j (by simp; omega)]; exact hI3' j hj (by simp; omega)
  have hLF4 : LF n3 S3 R4 I4 A3 (va_up P3 5 []) (va_up FS3 5 []) := by
    refine hLW4.full (P2 := P2) (t := σ.tgt) (tf := σ.tf) (by omega) hLF2.2.2 (by omega) ?_ up_at (fun j hj hjt hj5 => ?_)
    · rw [up_ne (by omega), hP3]
    · rw [up_ne hj5, (hPo3 j hjt).1]
  have hFS : va_up FS3 5 [] = va_up σ.insF 4 (FS3 4) := by
    funext j
    by_cases h4 : j = 4
    · rw [h4, up_at, up_ne (by decide)]
    · rw [up_ne h4]
      unfold St.insF
      by_cases h5 : j = 5
      · rw [h5, up_at, up_at]
      · rw [up_ne h5, up_ne h5]
        by_cases ht : j = σ.tgt
        · rw [ht, up_at, hF3, htake, hdrop, hF52]; rfl
        · rw [up_ne ht, (hPo3 j ht).2, hFo2 j ht h4, hF1 j h4]
  refine ⟨rfl, n3, S3, R4, I4, A3, va_up P3 5 [], FS3 4, rfl, ((he1.tr he2).tr he3).tr he4, ⟨⟨hX3.ex he4, by rw [hFS] at hLF4; exact hLF4, ?_⟩, ⟨?_, ⟨?_, ?_, ?_⟩, ?_, ?_, ?_⟩, ⟨k1, k2, fun q => by cases q⟩, nil_rl k3, nil_rl k4, fun k hk => by cases hk⟩, kM.of (fun j h1 h2 => hI4' j h1 (by simp; omega))⟩
  · have t3 := tot_up (P := P3) (k := 5) (l := []) (by decide)
    have e5 := (hPo3 5 (by omega)).1
    have hPt3 : (P3 σ.tgt).length = (P2 σ.tgt).length + (P2 5).length := by rw [hP3]; simp; omega
    have ht3 : tot P3 = tot P2 + (P2 5).length := by
      have o : ∀ j, j ≠ σ.tgt → (P3 j).length = (P2 j).length := fun j hj => by rw [(hPo3 j hj).1]
      rcases (show σ.tgt = 0 ∨ σ.tgt = 1 ∨ σ.tgt = 2 ∨ σ.tgt = 3 by omega) with z | z | z | z <;> rw [z] at hPt3 o <;> simp only [tot]
      · rw [hPt3, o 1 (by decide), o 2 (by decide), o 3 (by decide), o 4 (by decide), o 5 (by decide)]; omega
      · rw [hPt3, o 0 (by decide), o 2 (by decide), o 3 (by decide), o 4 (by decide), o 5 (by decide)]; omega
      · rw [hPt3, o 0 (by decide), o 1 (by decide), o 3 (by decide), o 4 (by decide), o 5 (by decide)]; omega
      · rw [hPt3, o 0 (by decide), o 1 (by decide), o 2 (by decide), o 4 (by decide), o 5 (by decide)]; omega
    rw [e5] at t3
    simp only [List.length_nil] at t3
    omega
  · exact hr4
  · exact h41
  · rw [h4k 2 (by decide), hI3' 3 (by decide) (by decide)]; exact h.c3.2.1
  · rw [h4k 9 (by decide), hI3' 3 (by decide) (by decide)]; exact h.c3.2.2
  · rw [hI4' 8 (by decide) (by decide)]; exact h.v
  · rw [hI4' 21 (by decide) (by decide)]; exact h.b
  · rw [hI4 22 (by decide), hI3 22 (by decide) (by omega)]
    refine hTK2.mem (fun F => ?_)
    have eS : σ.insD.fin.FS = σ.insF := rfl
    rw [eS]
    have hmem : ∀ k, lvk k → k ≠ 5 → k ≠ σ.tgt → σ.insF k = FS2 k := fun k hk h5 ht => by
      have := congrFun hFS k
      rw [up_ne h5, up_ne (by omega)] at this
      rw [← this, (hPo3 k ht).2]
    have hmt : σ.insF σ.tgt = (FS2 σ.tgt).take σ.tf ++ FS2 5 ++ (FS2 σ.tgt).drop σ.tf := by
      have := congrFun hFS σ.tgt
      rw [up_ne (by omega), up_ne (by omega)] at this
      rw [← this, hF3]
    have hm5 : σ.insF 5 = [] := up_at
    constructor
    · rintro ⟨k, hk, hm⟩
      by_cases h5 : k = 5
      · rw [h5, hm5] at hm; cases hm
      · by_cases ht : k = σ.tgt
        · rw [ht, hmt] at hm
          rcases List.mem_append.mp hm with hm | hm
          · rcases List.mem_append.mp hm with hm | hm
            · exact ⟨σ.tgt, hlk, List.mem_of_mem_take hm⟩
            · exact ⟨5, Or.inr rfl, hm⟩
          · exact ⟨σ.tgt, hlk, List.mem_of_mem_drop hm⟩
        · exact ⟨k, hk, by rw [← hmem k hk h5 ht]; exact hm⟩
    · rintro ⟨k, hk, hm⟩
      by_cases h5 : k = 5
      · rw [h5] at hm
        exact ⟨σ.tgt, hlk, by rw [hmt]; exact List.mem_append.mpr (Or.inl (List.mem_append.mpr (Or.inr hm)))⟩
      · by_cases ht : k = σ.tgt
        · rw [ht, ← List.take_append_drop σ.tf (FS2 σ.tgt)] at hm
          refine ⟨σ.tgt, hlk, ?_⟩
          rw [hmt]
          rcases List.mem_append.mp hm with hm | hm
          · exact List.mem_append.mpr (Or.inl (List.mem_append.mpr (Or.inl hm)))
          · exact List.mem_append.mpr (Or.inr hm)
        · exact ⟨k, hk, by rw [hmem k hk h5 ht]; exact hm⟩
theorem s_install (h : RC σ n S R I A P sp) (hjd : σ.job = true → σ.don ≤ σ.src.length ∧ σ.src.length ≤ 512) (hp' : σ.job = true → posOK σ) (hl : σ.log.length ≤ 24) (hs : σ.syn ≤ σ.log.length) (hPL : PLC σ.FS) :
    wp 9 219 300 6000 MX6_install 0 [(0, .ref 3)] [] (n, S, R, I) (cP I n S R σ.install) := by
  have hX := h.fx
  have hno : ¬ (σ.job = true ∧ σ.don = σ.src.length) → σ.install = (cSTATE, σ) := fun q => by unfold St.install; rw [if_neg q]
  have hyes : σ.job = true → σ.don = σ.src.length → σ.install = (nI (σ.FS 5).length, σ.insD.fin) := fun q z => by unfold St.install; rw [if_pos ⟨q, z⟩]
  have e5 := h.len (k := 5) (by decide) (by decide)
  have q1 : pC A 4 ≤ 100 := by unfold pC; omega
  have q2 : pS A 4 ≤ 2000 := by unfold pS; omega
  by_cases h0 : σ.tgt = 0
  · skip
    first | refine wp_aload_n (pc := 0) dX6_install_0 rfl ?_ | refine wp_aload_nN (pc := 0) dX6_install_0 rfl ?_
    refine wp_getR (pc := 1) dX6_install_1 fl_LevelStore_50 (by first | assumption | exact Fx.ok (by assumption) (by decide)) rfl (by first | assumption | exact Fx.ref (by assumption) rfl) ?_
    refine wp_getI (pc := 4) dX6_install_4 fl_LevelStore_108 (by first | assumption | exact Fx.ok (by assumption) (by decide)) rfl ?_
    refine wp_if_eq (pc := 7) (tgt := 20) dX6_install_7 (by decide) (fun hc => ?_) (fun hc => ?_)
    · have hjf : σ.job = false := by cases q : σ.job <;> rw [h.cj.1, q] at hc <;> first | rfl | exact absurd hc (by decide)
      refine wp_ldc (pc := 20) (v := -1000003) dX6_install_20 cn_LevelStore_107 ?_
      refine wp_ret (pc := 22) dX6_install_22 rfl (by first | trivial | exact Or.inl rfl | exact Or.inr rfl | assumption) ?_
      first | exact cP.id2 h (hno (fun q => by rw [hjf] at q; cases q.1)) | exact cP.id2 h (hno (by omega))
    · have hjt : σ.job = true := by cases q : σ.job <;> rw [h.cj.1, q] at hc <;> first | rfl | exact absurd rfl hc
      obtain ⟨d1, d2⟩ := hjd hjt
      have hlt : (nI (σ.src.length - σ.don)).toInt = ((σ.src.length - σ.don : Nat) : Int) := tI_n (by omega)
      first | refine wp_aload_n (pc := 10) dX6_install_10 rfl ?_ | refine wp_aload_nN (pc := 10) dX6_install_10 rfl ?_
      refine wp_getR (pc := 11) dX6_install_11 fl_LevelStore_50 (by first | assumption | exact Fx.ok (by assumption) (by decide)) rfl (by first | assumption | exact Fx.ref (by assumption) rfl) ?_
      refine cv_LevelStore_143 (pc := 14) (s_X2_left hX) rfl dX6_install_14 (by first | assumption | exact Fx.ok (by assumption) (by decide)) ⟨by decide, by decide, Nat.zero_le _, Nat.zero_le _⟩ (Nat.le_of_ble_eq_true rfl) (fun v h hp => ?_)
      obtain ⟨rfl, rfl⟩ := hp
      rw [h.left (by omega) d1]
      refine wp_if_le (pc := 17) (tgt := 23) dX6_install_17 (by decide) (fun hc => ?_) (fun hc => ?_)
      · skip
        first | refine wp_aload_n (pc := 23) dX6_install_23 rfl ?_ | refine wp_aload_nN (pc := 23) dX6_install_23 rfl ?_
        refine wp_getR (pc := 24) dX6_install_24 fl_LevelStore_50 (by first | assumption | exact Fx.ok (by assumption) (by decide)) rfl (by first | assumption | exact Fx.ref (by assumption) rfl) ?_
        refine wp_getR (pc := 27) dX6_install_27 fl_LevelStore_186 (by first | assumption | exact Fx.ok (by assumption) (by decide)) rfl (by first | assumption | exact Fx.ref (by assumption) rfl) ?_
        refine cv_LevelStore_154 (pc := 30) (s_X1_size (hX.fr (k := 5) (by decide)) (h.lF.1 5 (by decide)).1) rfl dX6_install_30 (by first | assumption | exact Fx.ok (by assumption) (by decide)) ⟨by decide, by decide, Nat.zero_le _, Nat.zero_le _⟩ (Nat.le_of_ble_eq_true rfl) (fun v h hp => ?_)
        obtain ⟨rfl, rfl⟩ := hp
        rw [e5]
        refine wp_istore_n (pc := 33) dX6_install_33 (by decide) rfl ?_
        first | refine wp_aload_n (pc := 34) dX6_install_34 rfl ?_ | refine wp_aload_nN (pc := 34) dX6_install_34 rfl ?_
        first | refine wp_aload_n (pc := 35) dX6_install_35 rfl ?_ | refine wp_aload_nN (pc := 35) dX6_install_35 rfl ?_
        first | refine wp_aload_n (pc := 36) dX6_install_36 rfl ?_ | refine wp_aload_nN (pc := 36) dX6_install_36 rfl ?_
        refine wp_getR (pc := 37) dX6_install_37 fl_LevelStore_50 (by first | assumption | exact Fx.ok (by assumption) (by decide)) rfl (by first | assumption | exact Fx.ref (by assumption) rfl) ?_
        refine wp_getI (pc := 40) dX6_install_40 fl_LevelStore_189 (by first | assumption | exact Fx.ok (by assumption) (by decide)) rfl ?_
        have j1 := (h.cj.2.2 hjt).1
        rw [show I 27 1 = -1 by rw [j1, h0]; rfl]
        refine cv_LevelStore_146 (pc := 43) (s_levelAtN hX (l := -1) (by decide)) rfl dX6_install_43 (by first | assumption | exact Fx.ok (by assumption) (by decide)) ⟨by decide, by decide, Nat.zero_le _, Nat.zero_le _⟩ (Nat.le_of_ble_eq_true rfl) (fun v h hp => ?_)
        obtain ⟨rfl, rfl⟩ := hp
        first | refine wp_aload_n (pc := 46) dX6_install_46 rfl ?_ | refine wp_aload_nN (pc := 46) dX6_install_46 rfl ?_
        refine wp_getR (pc := 47) dX6_install_47 fl_LevelStore_50 (by first | assumption | exact Fx.ok (by assumption) (by decide)) rfl (by first | assumption | exact Fx.ref (by assumption) rfl) ?_
        refine wp_getI (pc := 50) dX6_install_50 fl_LevelStore_156 (by first | assumption | exact Fx.ok (by assumption) (by decide)) rfl ?_
        first | refine wp_aload_n (pc := 53) dX6_install_53 rfl ?_ | refine wp_aload_nN (pc := 53) dX6_install_53 rfl ?_
        refine wp_getR (pc := 54) dX6_install_54 fl_LevelStore_50 (by first | assumption | exact Fx.ok (by assumption) (by decide)) rfl (by first | assumption | exact Fx.ref (by assumption) rfl) ?_
        refine wp_getI (pc := 57) dX6_install_57 fl_LevelStore_159 (by first | assumption | exact Fx.ok (by assumption) (by decide)) rfl ?_
        refine cv_retireN (pc := 60) (s_X6_retireN (I 27 2) (I 27 3)) rfl dX6_install_60 (by exact Fx.ok (by assumption) (by decide)) ⟨by decide, by decide, Nat.zero_le _, Nat.zero_le _⟩ (Nat.le_of_ble_eq_true rfl) (fun v h hp => ?_)
        obtain ⟨rfl, rfl⟩ := hp
        rw [hyes hjt (by omega)]
        exact s_inst_B h hjt (hp' hjt) hl hs ab_ex.rf h.lF (fun j hj => by rw [if_pos h0, up_ne hj]) h.tk4 hPL.up4 (fun j _ _ => rfl) h.tp _ ⟨rfl, rfl, trivial⟩ _ _ (by omega) (by omega)
      · skip
        refine wp_ldc (pc := 20) (v := -1000003) dX6_install_20 cn_LevelStore_107 ?_
        refine wp_ret (pc := 22) dX6_install_22 rfl (by first | trivial | exact Or.inl rfl | exact Or.inr rfl | assumption) ?_
        first | exact cP.id2 h (hno (fun q => by rw [hjf] at q; cases q.1)) | exact cP.id2 h (hno (by omega))
  · skip
    first | refine wp_aload_n (pc := 0) dX6_install_0 rfl ?_ | refine wp_aload_nN (pc := 0) dX6_install_0 rfl ?_
    refine wp_getR (pc := 1) dX6_install_1 fl_LevelStore_50 (by first | assumption | exact Fx.ok (by assumption) (by decide)) rfl (by first | assumption | exact Fx.ref (by assumption) rfl) ?_
    refine wp_getI (pc := 4) dX6_install_4 fl_LevelStore_108 (by first | assumption | exact Fx.ok (by assumption) (by decide)) rfl ?_
    refine wp_if_eq (pc := 7) (tgt := 20) dX6_install_7 (by decide) (fun hc => ?_) (fun hc => ?_)
    · have hjf : σ.job = false := by cases q : σ.job <;> rw [h.cj.1, q] at hc <;> first | rfl | exact absurd hc (by decide)
      refine wp_ldc (pc := 20) (v := -1000003) dX6_install_20 cn_LevelStore_107 ?_
      refine wp_ret (pc := 22) dX6_install_22 rfl (by first | trivial | exact Or.inl rfl | exact Or.inr rfl | assumption) ?_
      first | exact cP.id2 h (hno (fun q => by rw [hjf] at q; cases q.1)) | exact cP.id2 h (hno (by omega))
    · have hjt : σ.job = true := by cases q : σ.job <;> rw [h.cj.1, q] at hc <;> first | rfl | exact absurd rfl hc
      obtain ⟨d1, d2⟩ := hjd hjt
      have hlt : (nI (σ.src.length - σ.don)).toInt = ((σ.src.length - σ.don : Nat) : Int) := tI_n (by omega)
      first | refine wp_aload_n (pc := 10) dX6_install_10 rfl ?_ | refine wp_aload_nN (pc := 10) dX6_install_10 rfl ?_
      refine wp_getR (pc := 11) dX6_install_11 fl_LevelStore_50 (by first | assumption | exact Fx.ok (by assumption) (by decide)) rfl (by first | assumption | exact Fx.ref (by assumption) rfl) ?_
      refine cv_LevelStore_143 (pc := 14) (s_X2_left hX) rfl dX6_install_14 (by first | assumption | exact Fx.ok (by assumption) (by decide)) ⟨by decide, by decide, Nat.zero_le _, Nat.zero_le _⟩ (Nat.le_of_ble_eq_true rfl) (fun v h hp => ?_)
      obtain ⟨rfl, rfl⟩ := hp
      rw [h.left (by omega) d1]
      refine wp_if_le (pc := 17) (tgt := 23) dX6_install_17 (by decide) (fun hc => ?_) (fun hc => ?_)
      · skip
        first | refine wp_aload_n (pc := 23) dX6_install_23 rfl ?_ | refine wp_aload_nN (pc := 23) dX6_install_23 rfl ?_
        refine wp_getR (pc := 24) dX6_install_24 fl_LevelStore_50 (by first | assumption | exact Fx.ok (by assumption) (by decide)) rfl (by first | assumption | exact Fx.ref (by assumption) rfl) ?_
        refine wp_getR (pc := 27) dX6_install_27 fl_LevelStore_186 (by first | assumption | exact Fx.ok (by assumption) (by decide)) rfl (by first | assumption | exact Fx.ref (by assumption) rfl) ?_
        refine cv_LevelStore_154 (pc := 30) (s_X1_size (hX.fr (k := 5) (by decide)) (h.lF.1 5 (by decide)).1) rfl dX6_install_30 (by first | assumption | exact Fx.ok (by assumption) (by decide)) ⟨by decide, by decide, Nat.zero_le _, Nat.zero_le _⟩ (Nat.le_of_ble_eq_true rfl) (fun v h hp => ?_)
        obtain ⟨rfl, rfl⟩ := hp
        rw [e5]
        refine wp_istore_n (pc := 33) dX6_install_33 (by decide) rfl ?_
        first | refine wp_aload_n (pc := 34) dX6_install_34 rfl ?_ | refine wp_aload_nN (pc := 34) dX6_install_34 rfl ?_
        first | refine wp_aload_n (pc := 35) dX6_install_35 rfl ?_ | refine wp_aload_nN (pc := 35) dX6_install_35 rfl ?_
        first | refine wp_aload_n (pc := 36) dX6_install_36 rfl ?_ | refine wp_aload_nN (pc := 36) dX6_install_36 rfl ?_
        refine wp_getR (pc := 37) dX6_install_37 fl_LevelStore_50 (by first | assumption | exact Fx.ok (by assumption) (by decide)) rfl (by first | assumption | exact Fx.ref (by assumption) rfl) ?_
        refine wp_getI (pc := 40) dX6_install_40 fl_LevelStore_189 (by first | assumption | exact Fx.ok (by assumption) (by decide)) rfl ?_
        obtain ⟨j1, j2, -⟩ := h.cj.2.2 hjt
        obtain ⟨j2, j3⟩ := j2 h0
        obtain ⟨p1, p2, -⟩ := hp' hjt
        obtain ⟨p2, p3⟩ := p2 h0
        have elv : nI σ.tgt - 1 = nI (σ.tgt - 1) := pk_sub (show 1 ≤ σ.tgt by omega)
        have hlv : isLv (nI (σ.tgt - 1)) := ⟨by rw [tI_n (by omega)]; omega, by rw [tI_n (by omega)]; omega⟩
        have et : (nI (σ.tgt - 1)).toInt.toNat = σ.tgt - 1 := by rw [tI_n (by omega)]; rfl
        rw [j1, elv]
        refine cv_LevelStore_146 (pc := 43) (s_levelAt hX hlv) rfl dX6_install_43 (by first | assumption | exact Fx.ok (by assumption) (by decide)) ⟨by decide, by decide, Nat.zero_le _, Nat.zero_le _⟩ (Nat.le_of_ble_eq_true rfl) (fun v h hp => ?_)
        obtain ⟨rfl, rfl⟩ := hp
        rw [et]
        first | refine wp_aload_n (pc := 46) dX6_install_46 rfl ?_ | refine wp_aload_nN (pc := 46) dX6_install_46 rfl ?_
        refine wp_getR (pc := 47) dX6_install_47 fl_LevelStore_50 (by first | assumption | exact Fx.ok (by assumption) (by decide)) rfl (by first | assumption | exact Fx.ref (by assumption) rfl) ?_
        refine wp_getI (pc := 50) dX6_install_50 fl_LevelStore_156 (by first | assumption | exact Fx.ok (by assumption) (by decide)) rfl ?_
        first | refine wp_aload_n (pc := 53) dX6_install_53 rfl ?_ | refine wp_aload_nN (pc := 53) dX6_install_53 rfl ?_
        refine wp_getR (pc := 54) dX6_install_54 fl_LevelStore_50 (by first | assumption | exact Fx.ok (by assumption) (by decide)) rfl (by first | assumption | exact Fx.ref (by assumption) rfl) ?_
        refine wp_getI (pc := 57) dX6_install_57 fl_LevelStore_159 (by first | assumption | exact Fx.ok (by assumption) (by decide)) rfl ?_
        rw [j2, j3]
        refine cv_LevelStore_192 (pc := 60) (s_X6_retire hX h.lF (k := σ.tgt - 1) (a := σ.lf) (b := σ.lt) (Or.inl (by omega)) p2 (by rw [up_ne (by omega)]; exact p3) h.tk4 hPL.up4 h.tp) rfl dX6_install_60 (by first | assumption | exact Fx.ok (by assumption) (by decide)) ⟨by decide, by decide, by omega, by omega⟩ (Nat.le_of_ble_eq_true rfl) (fun v h hp => ?_)
        obtain ⟨rfl, n1, S1, R1, I1, A1, P1, FS1, rfl, he1, hLF1, hFS1, hFo1, hTK1, hPL1, hI1, hA1, ht1⟩ := hp
        rw [hyes hjt (by omega)]
        have hxe : xk (σ.tgt - 1) = 11 ∨ xk (σ.tgt - 1) = 13 ∨ xk (σ.tgt - 1) = 15 ∨ xk (σ.tgt - 1) = 17 := by rcases (show σ.tgt - 1 = 0 ∨ σ.tgt - 1 = 1 ∨ σ.tgt - 1 = 2 by omega) with z | z | z <;> rw [z] <;> decide
        exact s_inst_B h hjt (hp' hjt) hl hs he1 hLF1 (fun j hj => by
          rw [if_neg h0]
          by_cases hjt2 : j = σ.tgt - 1
          · rw [hjt2, up_at, hFS1, up_ne (by omega), cut_nil]
          · rw [up_ne hjt2, hFo1 j hjt2 hj, up_ne hj]) hTK1 hPL1 (fun j hj hjn => hI1 j hj (by simp at hjn; simp; omega)) (by rw [ht1]; exact h.tp) _ ⟨rfl, rfl, trivial⟩ _ _ (by omega) (by omega)
      · skip
        refine wp_ldc (pc := 20) (v := -1000003) dX6_install_20 cn_LevelStore_107 ?_
        refine wp_ret (pc := 22) dX6_install_22 rfl (by first | trivial | exact Or.inl rfl | exact Or.inr rfl | assumption) ?_
        first | exact cP.id2 h (hno (fun q => by rw [hjf] at q; cases q.1)) | exact cP.id2 h (hno (by omega))
end IN3
