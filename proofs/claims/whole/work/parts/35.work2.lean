/-! work, stop, crash -/
/-- the answer and the state after a call of the program -/
def cP (I : ab_II) (n : Nat) (S : ab_SH) (R : ab_RR) (a : Int32 × St) (v : Option Value) (h : ab_M) : Prop := v = some (.int a.1) ∧ ∃ n' S' R' I' A' P' sp', h = (n', S', R', I') ∧ ab_ex n S R n' S' R' ∧ RC a.2 n' S' R' I' A' P' sp' ∧ kM I I'
theorem fC_le (A : AC) : fC A ≤ 200 := by unfold fC pC; omega
theorem fS_le (A : AC) : fS A ≤ 4000 := by unfold fS pS; omega
section W2
variable {σ : St} {n : Nat} {S : ab_SH} {R : ab_RR} {I : ab_II} {A : AC} {P : Nat → List Nat} {sp : List FA}
theorem cP.id (h : RC σ n S R I A P sp) {x : Int32} : cP I n S R (x, σ) (some (.int x)) (n, S, R, I) := ⟨rfl, n, S, R, I, A, P, sp, rfl, ab_ex.rf, h, kM.rf⟩
theorem s_work_t0 {x y : Int32} {mc ms : Nat} {post : ab_Po} (h : RC σ n S R I A P sp) (hP : PLC σ.FS) (hnf : (σ.FS 5).length ≤ σ.nf) (hmc : pC A 4 ≤ mc) (hms : pS A 4 ≤ ms)
    (hpost : ∀ n' S' R' I' A' P' sp', ab_ex n S R n' S' R' → RC σ.giveUp n' S' R' I' A' P' sp' → kM I I' → post (some (.int cFULL)) (n', S', R', I')) :
    wp 10 240 mc ms MX6_work 72 [(0, .ref 3), (1, .int x), (2, .int 0), (3, .int y)] [] (n, S, R, I) post := by
  have hX := h.fx
  refine wp_iload_n (pc := 72) dX6_work_72 rfl ?_
  refine wp_if_eq (pc := 73) (tgt := 91) dX6_work_73 (by decide) (fun hc => ?_) (fun hc => ?_)
  · skip
    refine wp_iload_n (pc := 91) dX6_work_91 rfl ?_
    refine wp_if_ne (pc := 92) (tgt := 103) dX6_work_92 (by decide) (fun hc => ?_) (fun hc => ?_)
    · exact absurd rfl hc
    · skip
      first | refine wp_aload_n (pc := 95) dX6_work_95 rfl ?_ | refine wp_aload_nN (pc := 95) dX6_work_95 rfl ?_
      refine cv_LevelStore_73 (pc := 96) (s_giveUp h hP hnf) rfl dX6_work_96 (by first | assumption | exact Fx.ok (by assumption) (by decide)) ⟨by decide, by decide, hmc, hms⟩ (Nat.le_of_ble_eq_true rfl) (fun v h hp => ?_)
      obtain ⟨rfl, n1, S1, R1, I1, A1, P1, sp1, rfl, he1, hRC1, hk1⟩ := hp
      refine wp_pop (pc := 99) dX6_work_99 rfl ?_
      refine wp_ldc (pc := 100) (v := -1000004) dX6_work_100 cn_LevelStore_185 ?_
      refine wp_ret (pc := 102) dX6_work_102 rfl (by first | trivial | exact Or.inl rfl | exact Or.inr rfl | assumption) ?_
      exact hpost n1 S1 R1 I1 A1 P1 sp1 he1 hRC1 hk1
  · exact absurd rfl hc
theorem s_work_t2 {x y : Int32} {mc ms : Nat} {post : ab_Po} (hX : Fx n S R) (hpost : ∀ _ : Nat, post (some (.int (I 28 3 - I 27 9))) (n, S, R, I)) : wp 10 240 mc ms MX6_work 91 [(0, .ref 3), (1, .int x), (2, .int 1), (3, .int y)] [] (n, S, R, I) post := by
  refine wp_iload_n (pc := 91) dX6_work_91 rfl ?_
  refine wp_if_ne (pc := 92) (tgt := 103) dX6_work_92 (by decide) (fun hc => ?_) (fun hc => ?_)
  · skip
    first | refine wp_aload_n (pc := 103) dX6_work_103 rfl ?_ | refine wp_aload_nN (pc := 103) dX6_work_103 rfl ?_
    refine wp_getR (pc := 104) dX6_work_104 fl_LevelStore_50 (by first | assumption | exact Fx.ok (by assumption) (by decide)) rfl (by first | assumption | exact Fx.ref (by assumption) rfl) ?_
    refine cv_LevelStore_143 (pc := 107) (s_X2_left hX) rfl dX6_work_107 (by first | assumption | exact Fx.ok (by assumption) (by decide)) ⟨by decide, by decide, Nat.zero_le _, Nat.zero_le _⟩ (Nat.le_of_ble_eq_true rfl) (fun v h hp => ?_)
    obtain ⟨rfl, rfl⟩ := hp
    refine wp_ret (pc := 110) dX6_work_110 rfl (by first | trivial | exact Or.inl rfl | exact Or.inr rfl | assumption) ?_
    exact hpost 0
  · exact absurd hc (by decide)
theorem s_work_t3 {x y : Int32} {mc ms : Nat} {post : ab_Po} (h : RC σ n S R I A P sp) (hP : PLC σ.FS) (hnf : (σ.FS 5).length ≤ σ.nf) (hmc : pC A 4 ≤ mc) (hms : pS A 4 ≤ ms)
    (hpost : ∀ n' S' R' I' A' P' sp', ab_ex n S R n' S' R' → RC σ.giveUp n' S' R' I' A' P' sp' → kM I I' → post (some (.int cFULL)) (n', S', R', I')) :
    wp 10 240 mc ms MX6_work 91 [(0, .ref 3), (1, .int x), (2, .int 0), (3, .int y)] [] (n, S, R, I) post := by
  have hX := h.fx
  refine wp_iload_n (pc := 91) dX6_work_91 rfl ?_
  refine wp_if_ne (pc := 92) (tgt := 103) dX6_work_92 (by decide) (fun hc => ?_) (fun hc => ?_)
  · exact absurd rfl hc
  · skip
    first | refine wp_aload_n (pc := 95) dX6_work_95 rfl ?_ | refine wp_aload_nN (pc := 95) dX6_work_95 rfl ?_
    refine cv_LevelStore_73 (pc := 96) (s_giveUp h hP hnf) rfl dX6_work_96 (by first | assumption | exact Fx.ok (by assumption) (by decide)) ⟨by decide, by decide, hmc, hms⟩ (Nat.le_of_ble_eq_true rfl) (fun v h hp => ?_)
    obtain ⟨rfl, n1, S1, R1, I1, A1, P1, sp1, rfl, he1, hRC1, hk1⟩ := hp
    refine wp_pop (pc := 99) dX6_work_99 rfl ?_
    refine wp_ldc (pc := 100) (v := -1000004) dX6_work_100 cn_LevelStore_185 ?_
    refine wp_ret (pc := 102) dX6_work_102 rfl (by first | trivial | exact Or.inl rfl | exact Or.inr rfl | assumption) ?_
    exact hpost n1 S1 R1 I1 A1 P1 sp1 he1 hRC1 hk1
theorem s_work_t1 {x y : Int32} {mc ms : Nat} {post : ab_Po} (hO : OKD σ) (h : RC σ n S R I A P sp) (hmc : 5 + fC A ≤ mc) (hms : 80 + fS A ≤ ms)
    (hp1 : σ.don ≠ σ.src.length → ∀ n' S' R' I' A' P' sp', ab_ex n S R n' S' R' → RC σ n' S' R' I' A' P' sp' → kM I I' → post (some (.int (nI (σ.src.length - σ.don)))) (n', S', R', I'))
    (hp2 : σ.don = σ.src.length → σ.endF.2 = true → ∀ n' S' R' I' A' P' sp', ab_ex n S R n' S' R' → RC σ.endF.1 n' S' R' I' A' P' sp' → kM I I' → post (some (.int (nI 0))) (n', S', R', I'))
    (hp3 : σ.don = σ.src.length → σ.endF.2 = false → ∀ n' S' R' I' A' P' sp', ab_ex n S R n' S' R' → RC σ.endF.1.giveUp n' S' R' I' A' P' sp' → kM I I' → post (some (.int cFULL)) (n', S', R', I')) :
    wp 10 240 mc ms MX6_work 72 [(0, .ref 3), (1, .int x), (2, .int 1), (3, .int y)] [] (n, S, R, I) post := by
  have hX := h.fx
  obtain ⟨hj, hs, hm, hP, hv, hc0, htg, hnf, hd⟩ := hO
  have hlt : (nI (σ.src.length - σ.don)).toInt = ((σ.src.length - σ.don : Nat) : Int) := tI_n (by omega)
  have hE : eC σ A P ≤ mc ∧ eS σ A P ≤ ms := by
    have e5 := al_le (len := (P 5).length) (cap := (A 5).2) (by have := h.len (k := 5) (by decide) (by decide); simp only [cntF] at hc0; omega) (h.lF.1 5 (by decide)).1.c10
    have e4 := al_le (len := 0) (cap := (A 4).2) (by decide) (h.lF.1 4 (by decide)).1.c10
    unfold fC pC at hmc
    unfold fS pS at hms
    unfold eC eS
    constructor
    · split
      · exact Nat.zero_le _
      · split
        · unfold c4
          split <;> omega
        · omega
    · split
      · exact Nat.zero_le _
      · split
        · unfold s4
          split <;> omega
        · omega
  refine wp_iload_n (pc := 72) dX6_work_72 rfl ?_
  refine wp_if_eq (pc := 73) (tgt := 91) dX6_work_73 (by decide) (fun hc => ?_) (fun hc => ?_)
  · exact absurd hc (by decide)
  · skip
    first | refine wp_aload_n (pc := 76) dX6_work_76 rfl ?_ | refine wp_aload_nN (pc := 76) dX6_work_76 rfl ?_
    refine wp_getR (pc := 77) dX6_work_77 fl_LevelStore_50 (by first | assumption | exact Fx.ok (by assumption) (by decide)) rfl (by first | assumption | exact Fx.ref (by assumption) rfl) ?_
    refine cv_LevelStore_143 (pc := 80) (s_X2_left hX) rfl dX6_work_80 (by first | assumption | exact Fx.ok (by assumption) (by decide)) ⟨by decide, by decide, Nat.zero_le _, Nat.zero_le _⟩ (Nat.le_of_ble_eq_true rfl) (fun v h hp => ?_)
    obtain ⟨rfl, rfl⟩ := hp
    rw [h.left (by omega) hd]
    refine wp_if_ne (pc := 83) (tgt := 91) dX6_work_83 (by decide) (fun hc => ?_) (fun hc => ?_)
    · refine wp_loc (L' := [(0, .ref 3), (1, .int x), (2, .int 1), (3, .int y)]) ⟨rfl, rfl, rfl, rfl, trivial⟩ (s_work_t2 hX (fun n2 => ?_)); rw [h.left (by omega) hd]; exact hp1 (fun q => by omega) n S R I A P sp ab_ex.rf h kM.rf
    · have hq : σ.don = σ.src.length := by omega
      first | refine wp_aload_n (pc := 86) dX6_work_86 rfl ?_ | refine wp_aload_nN (pc := 86) dX6_work_86 rfl ?_
      refine cv_LevelStore_182 (pc := 87) (s_endF h hP hv hc0) rfl dX6_work_87 (by first | assumption | exact Fx.ok (by assumption) (by decide)) ⟨by decide, by decide, hE.1, hE.2⟩ (Nat.le_of_ble_eq_true rfl) (fun v h hp => ?_)
      obtain ⟨rfl, n1, S1, R1, I1, A1, P1, sp1, rfl, he1, hRC1, hk1, hb1, hb2⟩ := hp
      have esm := endF_same (σ := σ)
      refine wp_istore_n (pc := 90) dX6_work_90 (by decide) rfl ?_
      cases hok : σ.endF.2 with
      | true =>
        refine wp_loc (L' := [(0, .ref 3), (1, .int x), (2, .int 1), (3, .int y)]) ⟨rfl, rfl, rfl, rfl, trivial⟩ (s_work_t2 hRC1.fx (fun n2 => ?_))
        rw [hRC1.left (by rw [esm.2.1]; omega) (by rw [esm.2.1, esm.1]; omega), esm.2.1, esm.1, hq, Nat.sub_self]
        exact hp2 hq hok n1 S1 R1 I1 A1 P1 sp1 he1 hRC1 hk1
      | false =>
        have hF := endF_F hok
        refine wp_loc (L' := [(0, .ref 3), (1, .int x), (2, .int 0), (3, .int y)]) ⟨rfl, rfl, rfl, rfl, trivial⟩ (s_work_t3 hRC1 (by rw [hF.1]; exact hP) (by rw [hF.1, hF.2]; exact hnf) ?_ ?_ (fun n2 S2 R2 I2 A2 P2 sp2 he2 hRC2 hk2 => hp3 hq hok n2 S2 R2 I2 A2 P2 sp2 (he1.tr he2) hRC2 (hk1.tr hk2)))
        · unfold fC at hb1 hmc; split at hb1 <;> omega
        · unfold fS at hb2 hms; split at hb2 <;> omega
theorem s_work (W : St → Prop) (hW : ∀ σ, W σ → OKD σ) (hWs : ∀ σ, W σ → σ.don < σ.src.length → σ.doE.2 = true → W σ.doE.1) (h : RC σ n S R I A P sp) (hj : σ.job = true → σ.don ≤ σ.src.length ∧ σ.src.length ≤ 512) (hw : σ.job = true → σ.don < σ.src.length → W σ) (x : Int32) :
    wp 10 240 650 11600 MX6_work 0 [(0, .ref 3), (1, .int x)] [] (n, S, R, I) (cP I n S R (σ.work x)) := by
  have hX := h.fx
  have eBAD : (x.toInt < 1 ∨ 500 < x.toInt) → σ.work x = (cBAD, σ) := fun q => by unfold St.work; rw [if_pos q]
  have eST : ¬ (x.toInt < 1 ∨ 500 < x.toInt) → (σ.job = false ∨ σ.don = σ.src.length) → σ.work x = (cSTATE, σ) := fun q z => by unfold St.work; rw [if_neg q, if_pos z]
  have t500 : (500 : Int32).toInt = 500 := by decide
  refine wp_iload_n (pc := 0) dX6_work_0 rfl ?_
  refine wp_iconst (pc := 1) (v := 1) dX6_work_1 (by decide) ?_
  refine wp_icmp_lt (pc := 2) (tgt := 12) dX6_work_2 (by decide) (fun hc => ?_) (fun hc => ?_)
  · rw [tl_1] at hc
    refine wp_ldc (pc := 12) (v := -1000002) dX6_work_12 cn_LevelStore_60 ?_
    refine wp_ret (pc := 14) dX6_work_14 rfl (by first | trivial | exact Or.inl rfl | exact Or.inr rfl | assumption) ?_
    rw [eBAD (by omega)]; exact cP.id h
  · rw [tl_1] at hc
    have hc1 := hc
    refine wp_iload_n (pc := 5) dX6_work_5 rfl ?_
    refine wp_sipush (pc := 6) (v := 500) dX6_work_6 (by decide) ?_
    refine wp_icmp_le (pc := 9) (tgt := 15) dX6_work_9 (by decide) (fun hc => ?_) (fun hc => ?_)
    · rw [t500] at hc
      have hr : ¬ (x.toInt < 1 ∨ 500 < x.toInt) := by omega
      first | refine wp_aload_n (pc := 15) dX6_work_15 rfl ?_ | refine wp_aload_nN (pc := 15) dX6_work_15 rfl ?_
      refine wp_getR (pc := 16) dX6_work_16 fl_LevelStore_50 (by first | assumption | exact Fx.ok (by assumption) (by decide)) rfl (by first | assumption | exact Fx.ref (by assumption) rfl) ?_
      refine wp_getI (pc := 19) dX6_work_19 fl_LevelStore_108 (by first | assumption | exact Fx.ok (by assumption) (by decide)) rfl ?_
      refine wp_if_eq (pc := 22) (tgt := 35) dX6_work_22 (by decide) (fun hc => ?_) (fun hc => ?_)
      · have hjf : σ.job = false := by cases q : σ.job <;> rw [h.cj.1, q] at hc <;> first | rfl | exact absurd hc (by decide)
        refine wp_ldc (pc := 35) (v := -1000003) dX6_work_35 cn_LevelStore_107 ?_
        refine wp_ret (pc := 37) dX6_work_37 rfl (by first | trivial | exact Or.inl rfl | exact Or.inr rfl | assumption) ?_
        first | (rw [eST hr (Or.inl hjf)]; exact cP.id h) | (rw [eST hr (Or.inr (by omega))]; exact cP.id h)
      · have hjt : σ.job = true := by cases q : σ.job <;> rw [h.cj.1, q] at hc <;> first | rfl | exact absurd rfl hc
        obtain ⟨hd, hs⟩ := hj hjt
        have hlt : (nI (σ.src.length - σ.don)).toInt = ((σ.src.length - σ.don : Nat) : Int) := tI_n (by omega)
        first | refine wp_aload_n (pc := 25) dX6_work_25 rfl ?_ | refine wp_aload_nN (pc := 25) dX6_work_25 rfl ?_
        refine wp_getR (pc := 26) dX6_work_26 fl_LevelStore_50 (by first | assumption | exact Fx.ok (by assumption) (by decide)) rfl (by first | assumption | exact Fx.ref (by assumption) rfl) ?_
        refine cv_LevelStore_143 (pc := 29) (s_X2_left hX) rfl dX6_work_29 (by first | assumption | exact Fx.ok (by assumption) (by decide)) ⟨by decide, by decide, Nat.zero_le _, Nat.zero_le _⟩ (Nat.le_of_ble_eq_true rfl) (fun v h hp => ?_)
        obtain ⟨rfl, rfl⟩ := hp
        rw [h.left (by omega) hd]
        refine wp_if_ne (pc := 32) (tgt := 38) dX6_work_32 (by decide) (fun hc => ?_) (fun hc => ?_)
        · have hlt2 : σ.don < σ.src.length := by omega
          refine wp_iconst (pc := 38) (v := 1) dX6_work_38 (by decide) ?_
          refine wp_istore_n (pc := 39) dX6_work_39 (by decide) rfl ?_
          refine wp_iconst (pc := 40) (v := 0) dX6_work_40 (by decide) ?_
          refine wp_istore_n (pc := 41) dX6_work_41 (by decide) rfl ?_
          refine wp_loc (L' := [(0, .ref 3), (1, .int x), (2, .int 1), (3, .int 0)]) ⟨rfl, rfl, rfl, rfl, trivial⟩ ?_
          have hwt : σ.wt ≤ 68 := by have := (hW σ (hw hjt hlt2)).2.2.2.2.1.2.2; unfold St.wt; omega
          have f1 := fC_le A
          have f2 := fS_le A
          have hwd := works_don x.toInt.toNat σ hd
          have ewk : ∀ (r2 : St × Bool), (if (σ.works x.toInt.toNat).2 = true ∧ (σ.works x.toInt.toNat).1.don = (σ.works x.toInt.toNat).1.src.length then (σ.works x.toInt.toNat).1.endF else σ.works x.toInt.toNat) = r2 → σ.work x = if r2.2 = true then (nI ((σ.works x.toInt.toNat).1.src.length - (σ.works x.toInt.toNat).1.don), r2.1) else (cFULL, r2.1.giveUp) := fun r2 e => by unfold St.work; rw [if_neg hr, if_neg (fun z => z.elim (fun z => by rw [hjt] at z; cases z) (fun z => by omega)), e]
          refine s_work_loop W hW hWs x _ x.toInt.toNat 0 σ 0 n S R I A P sp 650 11600 (by omega) rfl (hw hjt hlt2) h (by omega) (by omega) (fun n1 S1 R1 I1 A1 P1 sp1 mc1 ms1 y1 he1 hRC1 hk1 g1 g2 => ?_)
          generalize hrr : σ.works x.toInt.toNat = r at *
          obtain ⟨σ1, b⟩ := r
          have hX1 := hRC1.fx
          have hsr1 : σ1.src.length ≤ 512 := by rw [hwd.2.1]; exact hs
          have hlt1 : (nI (σ1.src.length - σ1.don)).toInt = ((σ1.src.length - σ1.don : Nat) : Int) := tI_n (by omega)
          cases b with
          | false =>
            obtain ⟨hP1, hn1, hm1, hm2⟩ := g2 rfl
            exact s_work_t0 hRC1 hP1 hn1 (by unfold fC at hm1; omega) (by unfold fS at hm2; omega) (fun n2 S2 R2 I2 A2 P2 sp2 he2 hRC2 hk2 => by rw [ewk (σ1, false) (if_neg (fun q => by cases q.1)), if_neg (fun q => by cases q)]; exact ⟨rfl, n2, S2, R2, I2, A2, P2, sp2, rfl, he1.tr he2, hRC2, hk1.tr hk2⟩)
          | true =>
            obtain ⟨hw1, hm1, hm2⟩ := g1 rfl
            exact s_work_t1 (hW σ1 hw1) hRC1 hm1 hm2 (fun q n2 S2 R2 I2 A2 P2 sp2 he2 hRC2 hk2 => by rw [ewk (σ1, true) (if_neg (fun z => q z.2)), if_pos rfl]; exact ⟨rfl, n2, S2, R2, I2, A2, P2, sp2, rfl, he1.tr he2, hRC2, hk1.tr hk2⟩) (fun q hok n2 S2 R2 I2 A2 P2 sp2 he2 hRC2 hk2 => by rw [ewk σ1.endF (if_pos ⟨rfl, q⟩), if_pos hok]; exact ⟨by show _ = some (Value.int (nI (σ1.src.length - σ1.don))); rw [q, Nat.sub_self], n2, S2, R2, I2, A2, P2, sp2, rfl, he1.tr he2, hRC2, hk1.tr hk2⟩) (fun q hok n2 S2 R2 I2 A2 P2 sp2 he2 hRC2 hk2 => by rw [ewk σ1.endF (if_pos ⟨rfl, q⟩), if_neg (by rw [hok]; decide)]; exact ⟨rfl, n2, S2, R2, I2, A2, P2, sp2, rfl, he1.tr he2, hRC2, hk1.tr hk2⟩)
        · skip
          refine wp_ldc (pc := 35) (v := -1000003) dX6_work_35 cn_LevelStore_107 ?_
          refine wp_ret (pc := 37) dX6_work_37 rfl (by first | trivial | exact Or.inl rfl | exact Or.inr rfl | assumption) ?_
          first | (rw [eST hr (Or.inl hjf)]; exact cP.id h) | (rw [eST hr (Or.inr (by omega))]; exact cP.id h)
    · rw [t500] at hc
      refine wp_ldc (pc := 12) (v := -1000002) dX6_work_12 cn_LevelStore_60 ?_
      refine wp_ret (pc := 14) dX6_work_14 rfl (by first | trivial | exact Or.inl rfl | exact Or.inr rfl | assumption) ?_
      rw [eBAD (by omega)]; exact cP.id h
end W2
