/-! THE REFERENCE: work -/
theorem nI_per (d : Nat) : nI (d + 4294967296) = nI d := by
  rw [← nI_add, show nI 4294967296 = 0 by decide +kernel, Int32.add_zero]
section M17
variable {σ : St} {n : Nat} {S : ab_SH} {R : ab_RR} {I : ab_II} {SL : Nat → List Nat}
theorem enC_kC {J J' : ab_II} (h : fM J J' enC enK) : kC J J' := h.kC (by simp)
/-- a state that the reference's number of done entries fits -/
theorem RMc.some (h : RMc σ I SL) {d : Nat} (h23 : I 39 23 = nI d) (h31 : I 39 31 = 0) : ∃ d', RM (σ.J d' σ.mak) I SL := by
  by_cases q : d = σ.src.length
  · refine ⟨d + 4294967296, h, fun _ => ⟨by rw [h23]; exact (nI_per d).symm, ?_⟩⟩
    show I 39 31 = if d + 4294967296 = σ.src.length then 1 else 0
    rw [if_neg (by omega)]; exact h31
  · refine ⟨d, h, fun _ => ⟨h23, ?_⟩⟩
    show I 39 31 = if d = σ.src.length then 1 else 0
    rw [if_neg q]; exact h31
theorem m_work_86f (hX : Fx n S R) {J : ab_II} (x : Int32) (h : RM σ J SL) (hj : σ.job = true) (hnf : (σ.FS 5).length ≤ σ.nf) (hk : kC I J) (pc : Nat) (hpc : pc = 86 ∨ pc = 111) (L : List (Nat × Value)) (hL : ab_sub L [(0, .ref 39), (1, .int x), (2, .int 0)]) : wp 4 88 0 0 MX7_work pc L [] (n, S, R, J) (mP I n S R (cFULL, σ.giveUp)) := by
  refine wp_loc hL ?_
  have s111 : wp 4 88 0 0 MX7_work 111 [(0, .ref 39), (1, .int x), (2, .int 0)] [] (n, S, R, J) (mP I n S R (cFULL, σ.giveUp)) := by
    refine wp_iload_n (pc := 111) dX7_work_111 rfl ?_
    refine wp_if_ne (pc := 112) (tgt := 123) dX7_work_112 (by decide) (fun hc => ?_) (fun hc => ?_)
    · exact absurd rfl hc
    · skip
      first | refine wp_aload_n (pc := 115) dX7_work_115 rfl ?_ | refine wp_aload_nN (pc := 115) dX7_work_115 rfl ?_
      refine cv_LevelStoreModel_120 (pc := 116) (m_giveUp hX h (fun q => by rw [hj] at q; cases q) hnf) rfl dX7_work_116 (by first | assumption | exact Fx.ok (by assumption) (by decide)) ⟨by decide, by decide, Nat.zero_le _, Nat.zero_le _⟩ (Nat.le_of_ble_eq_true rfl) (fun v h hp => ?_)
      obtain ⟨I', SL', rfl, rfl, hr, hk'⟩ := hp.out
      refine wp_istore_n (pc := 119) dX7_work_119 (by decide) rfl ?_
      refine wp_ldc (pc := 120) (v := -1000004) dX7_work_120 cn_LevelStoreModel_100 ?_
      refine wp_ret (pc := 122) dX7_work_122 rfl (by first | trivial | exact Or.inl rfl | exact Or.inr rfl | assumption) ?_
      exact ⟨rfl, I', SL', rfl, hr, hk.tr hk'⟩
  rcases hpc with rfl | rfl
  · skip
    refine wp_iload_n (pc := 86) dX7_work_86 rfl ?_
    refine wp_if_eq (pc := 87) (tgt := 111) dX7_work_87 (by decide) (fun hc => ?_) (fun hc => ?_)
    · skip
      exact s111
    · exact absurd rfl hc
  · exact s111
theorem m_work_41f (hX : Fx n S R) {J : ab_II} (x y : Int32) {post : ab_Po} (hk : ∀ L, ab_sub L [(0, .ref 39), (1, .int x), (2, .int 0)] → wp 4 88 0 0 MX7_work 86 L [] (n, S, R, J) post) (L : List (Nat × Value)) (hL : ab_sub L [(0, .ref 39), (1, .int x), (2, .int 0), (3, .int y)]) : wp 4 88 0 0 MX7_work 41 L [] (n, S, R, J) post := by
  refine wp_loc hL ?_
  refine wp_iload_n (pc := 41) dX7_work_41 rfl ?_
  refine wp_iload_n (pc := 42) dX7_work_42 rfl ?_
  refine wp_icmp_ge (pc := 43) (tgt := 86) dX7_work_43 (by decide) (fun hc => ?_) (fun hc => ?_)
  · skip
    exact hk _ ⟨rfl, rfl, rfl, trivial⟩
  · skip
    first | refine wp_aload_n (pc := 46) dX7_work_46 rfl ?_ | refine wp_aload_nN (pc := 46) dX7_work_46 rfl ?_
    refine wp_getI (pc := 47) dX7_work_47 fl_LevelStoreModel_153 (by first | assumption | exact Fx.ok (by assumption) (by decide)) rfl ?_
    first | refine wp_aload_n (pc := 50) dX7_work_50 rfl ?_ | refine wp_aload_nN (pc := 50) dX7_work_50 rfl ?_
    refine wp_getI (pc := 51) dX7_work_51 fl_LevelStoreModel_140 (by first | assumption | exact Fx.ok (by assumption) (by decide)) rfl ?_
    refine wp_icmp_ge (pc := 54) (tgt := 86) dX7_work_54 (by decide) (fun hc => ?_) (fun hc => ?_)
    · skip
      exact hk _ ⟨rfl, rfl, rfl, trivial⟩
    · skip
      refine wp_iload_n (pc := 57) dX7_work_57 rfl ?_
      refine wp_if_eq (pc := 58) (tgt := 86) dX7_work_58 (by decide) (fun hc => ?_) (fun hc => ?_)
      · skip
        exact hk _ ⟨rfl, rfl, rfl, trivial⟩
      · exact absurd rfl hc
theorem m_work_123 (hX : Fx n S R) {J : ab_II} (x : Int32) (h : RM σ J SL) (hj : σ.job = true) (hd : σ.don ≤ σ.src.length) (hk : kC I J) (L : List (Nat × Value)) (hL : ab_sub L [(0, .ref 39), (1, .int x), (2, .int 1)]) : wp 4 88 0 0 MX7_work 111 L [] (n, S, R, J) (mP I n S R (nI (σ.src.length - σ.don), σ)) := by
  refine wp_loc hL ?_
  refine wp_iload_n (pc := 111) dX7_work_111 rfl ?_
  refine wp_if_ne (pc := 112) (tgt := 123) dX7_work_112 (by decide) (fun hc => ?_) (fun hc => ?_)
  · skip
    first | refine wp_aload_n (pc := 123) dX7_work_123 rfl ?_ | refine wp_aload_nN (pc := 123) dX7_work_123 rfl ?_
    refine wp_getI (pc := 124) dX7_work_124 fl_LevelStoreModel_140 (by first | assumption | exact Fx.ok (by assumption) (by decide)) rfl ?_
    first | refine wp_aload_n (pc := 127) dX7_work_127 rfl ?_ | refine wp_aload_nN (pc := 127) dX7_work_127 rfl ?_
    refine wp_getI (pc := 128) dX7_work_128 fl_LevelStoreModel_153 (by first | assumption | exact Fx.ok (by assumption) (by decide)) rfl ?_
    refine wp_isub (pc := 131) dX7_work_131 ?_
    rw [(h.jb.2.2 hj).2.1, (h.2 hj).1, pk_sub hd]
    refine wp_ret (pc := 132) dX7_work_132 rfl (by first | trivial | exact Or.inl rfl | exact Or.inr rfl | assumption) ?_
    exact mP.id h rfl hk
  · exact absurd hc (by decide)
theorem RMc.u31 {J : ab_II} (h : RMc σ J SL) (x : Int32) : RMc σ (ab_u2 J 39 31 x) SL := h.keep (C := []) (K := [31]) (fM.uf (by simp)) (fun j q => absurd q List.not_mem_nil) (fun k q => by simp at q; omega)
theorem RMc.u23 {J : ab_II} (h : RMc σ J SL) (x : Int32) : RMc σ (ab_u2 J 39 23 x) SL := h.keep (C := []) (K := [23]) (fM.uf (by simp)) (fun j q => absurd q List.not_mem_nil) (fun k q => by simp at q; omega)
theorem m_work_86t (hX : Fx n S R) {J : ab_II} (x : Int32) (h : RMc σ J SL) (hO : OKD σ) (h23 : J 39 23 = nI σ.don) (h31 : J 39 31 = 0) (hk : kC I J) (a : Int32 × St) (ha1 : σ.don ≠ σ.src.length → a = (nI (σ.src.length - σ.don), σ)) (ha2 : σ.don = σ.src.length → σ.endF.2 = true → a = (nI 0, σ.endF.1)) (ha3 : σ.don = σ.src.length → σ.endF.2 = false → a = (cFULL, σ.endF.1.giveUp)) (L : List (Nat × Value)) (hL : ab_sub L [(0, .ref 39), (1, .int x), (2, .int 1)]) : wp 4 88 0 0 MX7_work 86 L [] (n, S, R, J) (mP I n S R a) := by
  refine wp_loc hL ?_
  obtain ⟨hj, hs, hm, hP, hv, hc0, htg, hnf, hdl⟩ := hO
  have e22 : (J 39 22).toInt = σ.src.length := by rw [(h.jb.2.2 hj).2.1, tI_n (by omega)]
  have e23 : (J 39 23).toInt = σ.don := by rw [h23, tI_n (by omega)]
  have ok : ∀ (J2 : ab_II) (SL2 : Nat → List Nat), σ.don = σ.src.length → fM J J2 enC enK → σ.endF.2 = true → RMc σ.endF.1 J2 SL2 → ∀ L, ab_sub L [(0, .ref 39), (1, .int x), (2, .int 1)] → wp 4 88 0 0 MX7_work 111 L [] (n, S, R, ab_u2 J2 39 31 1) (mP I n S R a) := by
    intro J2 SL2 hq hf2 hok hR2 L2 hL2
    have esm := endF_same (σ := σ)
    have hR : RM σ.endF.1 (ab_u2 J2 39 31 1) SL2 := ⟨hR2.u31 1, fun _ => ⟨by rw [ab_u2_n _ _ (Or.inr (by decide)), hf2.2 23 (by simp), h23, esm.1], by rw [ab_u2_s, esm.1, esm.2.1, if_pos hq]⟩⟩
    have := m_work_123 (I := I) hX x hR (by rw [esm.2.2.1]; exact hj) (by rw [esm.1, esm.2.1]; omega) (hk.tr ((enC_kC hf2).tr (kC.u (by decide)))) L2 hL2
    rw [esm.1, esm.2.1, hq, Nat.sub_self] at this
    rw [ha2 hq hok]
    exact this
  have bad : ∀ (J2 : ab_II) (SL2 : Nat → List Nat), σ.don = σ.src.length → fM J J2 enC enK → σ.endF.2 = false → RMc σ J2 SL2 → ∀ L, ab_sub L [(0, .ref 39), (1, .int x), (2, .int 0)] → wp 4 88 0 0 MX7_work 111 L [] (n, S, R, ab_u2 J2 39 31 1) (mP I n S R a) := by
    intro J2 SL2 hq hf2 hok hR2 L2 hL2
    have hR : RM σ (ab_u2 J2 39 31 1) SL2 := ⟨hR2.u31 1, fun _ => ⟨by rw [ab_u2_n _ _ (Or.inr (by decide)), hf2.2 23 (by simp), h23], by rw [ab_u2_s, if_pos hq]⟩⟩
    have hg : σ.endF.1.giveUp = σ.giveUp := by
      by_cases hne : σ.mak = []
      · rw [endF_nil hne]
      · cases hr : room σ.FS (enc σ.mak).length with
        | none => rw [endF_none hne hr]; rfl
        | some p => rw [endF_some hne hr] at hok; cases hok
    rw [ha3 hq hok, hg]
    exact m_work_86f hX x hR hj hnf (hk.tr ((enC_kC hf2).tr (kC.u (by decide)))) 111 (Or.inr rfl) L2 hL2
  have s105 : ∀ (b : Int32) (J2 : ab_II), (∀ L, ab_sub L [(0, .ref 39), (1, .int x), (2, .int b)] → wp 4 88 0 0 MX7_work 111 L [] (n, S, R, ab_u2 J2 39 31 1) (mP I n S R a)) → ∀ L, ab_sub L [(0, .ref 39), (1, .int x)] → wp 4 88 0 0 MX7_work 105 L [.int b] (n, S, R, J2) (mP I n S R a) := by
    intro b J2 hk2 L2 hL2
    refine wp_loc hL2 ?_
    refine wp_istore_n (pc := 105) dX7_work_105 (by decide) rfl ?_
    first | refine wp_aload_n (pc := 106) dX7_work_106 rfl ?_ | refine wp_aload_nN (pc := 106) dX7_work_106 rfl ?_
    refine wp_iconst (pc := 107) (v := 1) dX7_work_107 (by decide) ?_
    refine wp_putI (pc := 108) dX7_work_108 fl_LevelStoreModel_147 (by first | assumption | exact Fx.ok (by assumption) (by decide)) rfl rfl (Or.inr ⟨rfl, by first | exact Or.inl rfl | exact Or.inr rfl | assumption⟩) ?_
    exact hk2 _ ⟨rfl, rfl, rfl, trivial⟩
  refine wp_iload_n (pc := 86) dX7_work_86 rfl ?_
  refine wp_if_eq (pc := 87) (tgt := 111) dX7_work_87 (by decide) (fun hc => ?_) (fun hc => ?_)
  · exact absurd hc (by decide)
  · skip
    first | refine wp_aload_n (pc := 90) dX7_work_90 rfl ?_ | refine wp_aload_nN (pc := 90) dX7_work_90 rfl ?_
    refine wp_getI (pc := 91) dX7_work_91 fl_LevelStoreModel_153 (by first | assumption | exact Fx.ok (by assumption) (by decide)) rfl ?_
    first | refine wp_aload_n (pc := 94) dX7_work_94 rfl ?_ | refine wp_aload_nN (pc := 94) dX7_work_94 rfl ?_
    refine wp_getI (pc := 95) dX7_work_95 fl_LevelStoreModel_140 (by first | assumption | exact Fx.ok (by assumption) (by decide)) rfl ?_
    refine wp_icmp_ne (pc := 98) (tgt := 111) dX7_work_98 (by decide) (fun hc => ?_) (fun hc => ?_)
    · have hq : σ.don ≠ σ.src.length := by omega
      have hR : RM σ J SL := ⟨h, fun _ => ⟨h23, by rw [if_neg hq]; exact h31⟩⟩
      rw [ha1 hq]; exact m_work_123 hX x hR hj (by omega) hk _ ⟨rfl, rfl, rfl, trivial⟩
    · have hq : σ.don = σ.src.length := by omega
      first | refine wp_aload_n (pc := 101) dX7_work_101 rfl ?_ | refine wp_aload_nN (pc := 101) dX7_work_101 rfl ?_
      refine cv_LevelStoreModel_207 (pc := 102) (m_ends hX h hj htg hP hv hc0) rfl dX7_work_102 (by first | assumption | exact Fx.ok (by assumption) (by decide)) ⟨by decide, by decide, Nat.zero_le _, Nat.zero_le _⟩ (Nat.le_of_ble_eq_true rfl) (fun v h hp => ?_)
      obtain ⟨J2, SL2, rfl, hf2, ⟨rfl, hok, hR2⟩ | ⟨rfl, hok, hR2⟩⟩ := hp
      · exact s105 1 J2 (ok J2 SL2 hq hf2 hok hR2) _ ⟨rfl, rfl, trivial⟩
      · exact s105 0 J2 (bad J2 SL2 hq hf2 hok hR2) _ ⟨rfl, rfl, trivial⟩
theorem m_work_loop (hX : Fx n S R) (W : St → Prop) (hW : ∀ σ, W σ → OKD σ) (hWs : ∀ σ, W σ → σ.don < σ.src.length → σ.doE.2 = true → W σ.doE.1) (x : Int32) (post : ab_Po) :
    ∀ (d k : Nat) (σ : St) (y : Int32) (J : ab_II) (SL : Nat → List Nat) (L : List (Nat × Value)), x.toInt = ((k + d : Nat) : Int) → y.toInt = k → W σ → RMc σ J SL → J 39 23 = nI σ.don → J 39 31 = 0 → kC I J →
    (∀ J' SL', kC I J' → (σ.works d).2 = true → W (σ.works d).1 → RMc (σ.works d).1 J' SL' → J' 39 23 = nI (σ.works d).1.don → J' 39 31 = 0 → ∀ L, ab_sub L [(0, .ref 39), (1, .int x), (2, .int 1)] → wp 4 88 0 0 MX7_work 86 L [] (n, S, R, J') post) →
    (∀ (σ' : St) J' SL', kC I J' → (σ.works d).2 = false → RM σ' J' SL' → σ'.job = true → (σ'.FS 5).length ≤ σ'.nf → (σ.works d).1.giveUp = σ'.giveUp → ∀ L, ab_sub L [(0, .ref 39), (1, .int x), (2, .int 0)] → wp 4 88 0 0 MX7_work 86 L [] (n, S, R, J') post) →
    ab_sub L [(0, .ref 39), (1, .int x), (2, .int 1), (3, .int y)] → wp 4 88 0 0 MX7_work 41 L [] (n, S, R, J) post := by
  intro d
  induction d with
  | zero =>
    intro k σ y J SL L hx hy hw h h23 h31 hk p1 p2 hL0
    refine wp_loc hL0 ?_
    refine wp_iload_n (pc := 41) dX7_work_41 rfl ?_
    refine wp_iload_n (pc := 42) dX7_work_42 rfl ?_
    refine wp_icmp_ge (pc := 43) (tgt := 86) dX7_work_43 (by decide) (fun hc => ?_) (fun hc => ?_)
    · skip
      exact p1 J SL hk rfl hw h h23 h31 _ ⟨rfl, rfl, rfl, trivial⟩
    · omega
  | succ d ih =>
    intro k σ y J SL L hx hy hw h h23 h31 hk p1 p2 hL0
    refine wp_loc hL0 ?_
    have hO := hW σ hw
    obtain ⟨hj, hs, hm, hP, hv, hc0, htg, hnf, hdl⟩ := id hO
    have e22 : (J 39 22).toInt = σ.src.length := by rw [(h.jb.2.2 hj).2.1, tI_n (by omega)]
    have e23 : (J 39 23).toInt = σ.don := by rw [h23, tI_n (by omega)]
    have xl := tI_lt x
    have ey1 : (y + Int32.ofInt 1).toInt = ((k + 1 : Nat) : Int) := by
      rw [show Int32.ofInt 1 = 1 by decide, tI_add (by rw [tl_1]; omega) (by rw [tl_1]; omega), tl_1]; omega
    by_cases hd : σ.don < σ.src.length
    · have s69a : ∀ (J2 : ab_II) (SL2 : Nat → List Nat), fM J J2 enC enK → σ.doE.2 = true → RMc σ.doE.1 J2 SL2 → ∀ L, ab_sub L [(0, .ref 39), (1, .int x), (3, .int y)] → wp 4 88 0 0 MX7_work 69 L [.int 1] (n, S, R, J2) post := by
        intro J2 SL2 hf2 hok hR2 L2 hL2
        refine wp_loc hL2 ?_
        have ew : σ.works (d + 1) = σ.doE.1.works d := by
          show (if σ.don < σ.src.length then (if σ.doE.2 then St.works d σ.doE.1 else (σ.doE.1, false)) else (σ, true)) = _
          rw [if_pos hd, hok]; rfl
        rw [ew] at p1 p2
        have hdd := doE_don (σ := σ)
        refine wp_istore_n (pc := 69) dX7_work_69 (by decide) rfl ?_
        first | refine wp_aload_n (pc := 70) dX7_work_70 rfl ?_ | refine wp_aload_nN (pc := 70) dX7_work_70 rfl ?_
        refine wp_dup (pc := 71) dX7_work_71 rfl ?_
        refine wp_getI (pc := 72) dX7_work_72 fl_LevelStoreModel_153 (by first | assumption | exact Fx.ok (by assumption) (by decide)) rfl ?_
        rw [hf2.2 23 (by simp), h23]
        refine wp_iconst (pc := 75) (v := 1) dX7_work_75 (by decide) ?_
        refine wp_iadd (pc := 76) dX7_work_76 ?_
        rw [nI_1]
        refine wp_putI (pc := 77) dX7_work_77 fl_LevelStoreModel_153 (by first | assumption | exact Fx.ok (by assumption) (by decide)) rfl rfl (Or.inl rfl) ?_
        refine wp_iinc (pc := 80) dX7_work_80 rfl (by decide) rfl ?_
        refine wp_goto (pc := 83) (tgt := 41) dX7_work_83 (by decide) ?_
        refine ih (k + 1) σ.doE.1 _ _ SL2 _ (by rw [hx]; congr 1; omega) ey1 (hWs σ hw hd hok) (hR2.u23 _) (by rw [ab_u2_s, hdd.1]) (by rw [ab_u2_n _ _ (Or.inr (by decide)), hf2.2 31 (by simp)]; exact h31) (hk.tr ((enC_kC hf2).tr (kC.u (by decide)))) p1 p2 ⟨rfl, rfl, rfl, rfl, trivial⟩
      have s69b : ∀ (J2 : ab_II) (SL2 : Nat → List Nat), fM J J2 enC enK → σ.doE.2 = false → RMc σ J2 SL2 → σ.doE.1.giveUp = σ.giveUp → ∀ L, ab_sub L [(0, .ref 39), (1, .int x), (3, .int y)] → wp 4 88 0 0 MX7_work 69 L [.int 0] (n, S, R, J2) post := by
        intro J2 SL2 hf2 hok hR2 hgu L2 hL2
        refine wp_loc hL2 ?_
        have ew : σ.works (d + 1) = (σ.doE.1, false) := by
          show (if σ.don < σ.src.length then (if σ.doE.2 then St.works d σ.doE.1 else (σ.doE.1, false)) else (σ, true)) = _
          rw [if_pos hd, hok]; rfl
        rw [ew] at p2
        obtain ⟨d', hR3⟩ := (hR2.u23 (nI (σ.don + 1))).some (ab_u2_s _ _ _ _) (by rw [ab_u2_n _ _ (Or.inr (by decide)), hf2.2 31 (by simp)]; exact h31)
        refine wp_istore_n (pc := 69) dX7_work_69 (by decide) rfl ?_
        first | refine wp_aload_n (pc := 70) dX7_work_70 rfl ?_ | refine wp_aload_nN (pc := 70) dX7_work_70 rfl ?_
        refine wp_dup (pc := 71) dX7_work_71 rfl ?_
        refine wp_getI (pc := 72) dX7_work_72 fl_LevelStoreModel_153 (by first | assumption | exact Fx.ok (by assumption) (by decide)) rfl ?_
        rw [hf2.2 23 (by simp), h23]
        refine wp_iconst (pc := 75) (v := 1) dX7_work_75 (by decide) ?_
        refine wp_iadd (pc := 76) dX7_work_76 ?_
        rw [nI_1]
        refine wp_putI (pc := 77) dX7_work_77 fl_LevelStoreModel_153 (by first | assumption | exact Fx.ok (by assumption) (by decide)) rfl rfl (Or.inl rfl) ?_
        refine wp_iinc (pc := 80) dX7_work_80 rfl (by decide) rfl ?_
        refine wp_goto (pc := 83) (tgt := 41) dX7_work_83 (by decide) ?_
        refine m_work_41f hX x _ (fun L3 hL3 => p2 (σ.J d' σ.mak) _ SL2 (hk.tr ((enC_kC hf2).tr (kC.u (by decide)))) rfl hR3 hj hnf hgu L3 hL3) _ ⟨rfl, rfl, rfl, rfl, trivial⟩
      refine wp_iload_n (pc := 41) dX7_work_41 rfl ?_
      refine wp_iload_n (pc := 42) dX7_work_42 rfl ?_
      refine wp_icmp_ge (pc := 43) (tgt := 86) dX7_work_43 (by decide) (fun hc => ?_) (fun hc => ?_)
      · omega
      · skip
        first | refine wp_aload_n (pc := 46) dX7_work_46 rfl ?_ | refine wp_aload_nN (pc := 46) dX7_work_46 rfl ?_
        refine wp_getI (pc := 47) dX7_work_47 fl_LevelStoreModel_153 (by first | assumption | exact Fx.ok (by assumption) (by decide)) rfl ?_
        first | refine wp_aload_n (pc := 50) dX7_work_50 rfl ?_ | refine wp_aload_nN (pc := 50) dX7_work_50 rfl ?_
        refine wp_getI (pc := 51) dX7_work_51 fl_LevelStoreModel_140 (by first | assumption | exact Fx.ok (by assumption) (by decide)) rfl ?_
        refine wp_icmp_ge (pc := 54) (tgt := 86) dX7_work_54 (by decide) (fun hc => ?_) (fun hc => ?_)
        · omega
        · skip
          refine wp_iload_n (pc := 57) dX7_work_57 rfl ?_
          refine wp_if_eq (pc := 58) (tgt := 86) dX7_work_58 (by decide) (fun hc => ?_) (fun hc => ?_)
          · exact absurd hc (by decide)
          · skip
            first | refine wp_aload_n (pc := 61) dX7_work_61 rfl ?_ | refine wp_aload_nN (pc := 61) dX7_work_61 rfl ?_
            first | refine wp_aload_n (pc := 62) dX7_work_62 rfl ?_ | refine wp_aload_nN (pc := 62) dX7_work_62 rfl ?_
            refine wp_getI (pc := 63) dX7_work_63 fl_LevelStoreModel_153 (by first | assumption | exact Fx.ok (by assumption) (by decide)) rfl ?_
            rw [h23]
            refine cv_LevelStoreModel_213 (pc := 66) (m_does hX h hO hd) rfl dX7_work_66 (by first | assumption | exact Fx.ok (by assumption) (by decide)) ⟨by decide, by decide, Nat.zero_le _, Nat.zero_le _⟩ (Nat.le_of_ble_eq_true rfl) (fun v h hp => ?_)
            obtain ⟨J2, SL2, rfl, hf2, ⟨rfl, hok, hR2⟩ | ⟨rfl, hok, hR2, hgu⟩⟩ := hp
            · exact s69a J2 SL2 hf2 hok hR2 _ ⟨rfl, rfl, rfl, trivial⟩
            · exact s69b J2 SL2 hf2 hok hR2 hgu _ ⟨rfl, rfl, rfl, trivial⟩
    · have ew : σ.works (d + 1) = (σ, true) := by
        show (if σ.don < σ.src.length then (if σ.doE.2 then St.works d σ.doE.1 else (σ.doE.1, false)) else (σ, true)) = _
        rw [if_neg hd]
      rw [ew] at p1
      refine wp_iload_n (pc := 41) dX7_work_41 rfl ?_
      refine wp_iload_n (pc := 42) dX7_work_42 rfl ?_
      refine wp_icmp_ge (pc := 43) (tgt := 86) dX7_work_43 (by decide) (fun hc => ?_) (fun hc => ?_)
      · omega
      · skip
        first | refine wp_aload_n (pc := 46) dX7_work_46 rfl ?_ | refine wp_aload_nN (pc := 46) dX7_work_46 rfl ?_
        refine wp_getI (pc := 47) dX7_work_47 fl_LevelStoreModel_153 (by first | assumption | exact Fx.ok (by assumption) (by decide)) rfl ?_
        first | refine wp_aload_n (pc := 50) dX7_work_50 rfl ?_ | refine wp_aload_nN (pc := 50) dX7_work_50 rfl ?_
        refine wp_getI (pc := 51) dX7_work_51 fl_LevelStoreModel_140 (by first | assumption | exact Fx.ok (by assumption) (by decide)) rfl ?_
        refine wp_icmp_ge (pc := 54) (tgt := 86) dX7_work_54 (by decide) (fun hc => ?_) (fun hc => ?_)
        · skip
          exact p1 J SL hk rfl hw h h23 h31 _ ⟨rfl, rfl, rfl, trivial⟩
        · omega
theorem m_work (hX : Fx n S R) (W : St → Prop) (hW : ∀ σ, W σ → OKD σ) (hWs : ∀ σ, W σ → σ.don < σ.src.length → σ.doE.2 = true → W σ.doE.1) (h : RM σ I SL) (hj : σ.job = true → σ.don ≤ σ.src.length ∧ σ.src.length ≤ 512) (hw : σ.job = true → σ.don < σ.src.length → W σ) (x : Int32) : wp 4 88 0 0 MX7_work 0 [(0, .ref 39), (1, .int x)] [] (n, S, R, I) (mP I n S R (σ.work x)) := by
  have eBAD : (x.toInt < 1 ∨ 500 < x.toInt) → σ.work x = (cBAD, σ) := fun q => by unfold St.work; rw [if_pos q]
  have eST : ¬ (x.toInt < 1 ∨ 500 < x.toInt) → (σ.job = false ∨ σ.don = σ.src.length) → σ.work x = (cSTATE, σ) := fun q z => by unfold St.work; rw [if_neg q, if_pos z]
  first | refine wp_aload_n (pc := 0) dX7_work_0 rfl ?_ | refine wp_aload_nN (pc := 0) dX7_work_0 rfl ?_
  refine wp_iconst (pc := 1) (v := 0) dX7_work_1 (by decide) ?_
  refine wp_putI (pc := 2) dX7_work_2 fl_LevelStoreModel_89 (by first | assumption | exact Fx.ok (by assumption) (by decide)) rfl rfl (Or.inl rfl) ?_
  have h1 := h.z
  have hk1 := kC.z (I := I)
  generalize ab_u2 I 39 0 0 = J at h1 hk1 ⊢
  refine wp_iload_n (pc := 5) dX7_work_5 rfl ?_
  refine wp_i2l (pc := 6) dX7_work_6 ?_
  refine wp_lconst (pc := 7) (v := 1) dX7_work_7 (by decide) ?_
  refine wp_ldc2 (pc := 8) (v := 500) dX7_work_8 cl2_LevelStoreModel_211 ?_
  refine cv_LevelStoreModel_103 (pc := 11) (s_inI x l64_1 l64_500) rfl dX7_work_11 ⟨by decide, by decide, Nat.zero_le _, Nat.zero_le _⟩ (Nat.le_of_ble_eq_true rfl) (fun v h hp => ?_)
  obtain ⟨rfl, rfl⟩ := hp
  refine wp_if_ne (pc := 14) (tgt := 20) dX7_work_14 (by decide) (fun hc => ?_) (fun hc => ?_)
  · have hb := ite01n hc
    have hr : ¬ (x.toInt < 1 ∨ 500 < x.toInt) := by omega
    first | refine wp_aload_n (pc := 20) dX7_work_20 rfl ?_ | refine wp_aload_nN (pc := 20) dX7_work_20 rfl ?_
    refine wp_getI (pc := 21) dX7_work_21 fl_LevelStoreModel_143 (by first | assumption | exact Fx.ok (by assumption) (by decide)) rfl ?_
    refine wp_if_eq (pc := 24) (tgt := 34) dX7_work_24 (by decide) (fun hc => ?_) (fun hc => ?_)
    · have hjf := jb_f h1.jb.1 hc
      have hw0 := eST hr (Or.inl hjf)
      refine wp_ldc (pc := 34) (v := -1000003) dX7_work_34 cn_LevelStoreModel_136 ?_
      refine wp_ret (pc := 36) dX7_work_36 rfl (by first | trivial | exact Or.inl rfl | exact Or.inr rfl | assumption) ?_
      exact mP.id h1 hw0 hk1
    · have hjt := jb_t h1.jb.1 hc
      obtain ⟨hd, hs⟩ := hj hjt
      first | refine wp_aload_n (pc := 27) dX7_work_27 rfl ?_ | refine wp_aload_nN (pc := 27) dX7_work_27 rfl ?_
      refine wp_getI (pc := 28) dX7_work_28 fl_LevelStoreModel_147 (by first | assumption | exact Fx.ok (by assumption) (by decide)) rfl ?_
      rw [(h1.2 hjt).2]
      refine wp_if_eq (pc := 31) (tgt := 37) dX7_work_31 (by decide) (fun hc => ?_) (fun hc => ?_)
      · have hne : σ.don ≠ σ.src.length := fun q => by rw [if_pos q] at hc; exact absurd hc (by decide)
        refine wp_iconst (pc := 37) (v := 1) dX7_work_37 (by decide) ?_
        refine wp_istore_n (pc := 38) dX7_work_38 (by decide) rfl ?_
        refine wp_iconst (pc := 39) (v := 0) dX7_work_39 (by decide) ?_
        refine wp_istore_n (pc := 40) dX7_work_40 (by decide) rfl ?_
        have hlt2 : σ.don < σ.src.length := by omega
        have hwd := works_don x.toInt.toNat σ hd
        have ewk : ∀ (r2 : St × Bool), (if (σ.works x.toInt.toNat).2 = true ∧ (σ.works x.toInt.toNat).1.don = (σ.works x.toInt.toNat).1.src.length then (σ.works x.toInt.toNat).1.endF else σ.works x.toInt.toNat) = r2 → σ.work x = if r2.2 = true then (nI ((σ.works x.toInt.toNat).1.src.length - (σ.works x.toInt.toNat).1.don), r2.1) else (cFULL, r2.1.giveUp) := fun r2 e => by unfold St.work; rw [if_neg hr, if_neg (fun z => z.elim (fun z => by rw [hjt] at z; cases z) (fun z => by omega)), e]
        refine m_work_loop hX W hW hWs x _ x.toInt.toNat 0 σ _ J SL _ (by omega) rfl (hw hjt hlt2) h1.1 (h1.2 hjt).1 (by rw [(h1.2 hjt).2, if_neg hne]) hk1 (fun J' SL' hk' hok hw' hR' g23 g31 L hL => ?_) (fun σ' J' SL' hk' hok hR' hj' hn' hgu L hL => ?_) ⟨rfl, rfl, rfl, rfl, trivial⟩
        · generalize hrr : σ.works x.toInt.toNat = r at *
          obtain ⟨σ1, b⟩ := r
          have hok : b = true := hok
          subst hok
          refine m_work_86t hX x hR' (hW σ1 hw') g23 g31 hk' _ (fun q => ?_) (fun q hok => ?_) (fun q hok => ?_) L hL
          · rw [ewk (σ1, true) (if_neg (fun z => q z.2)), if_pos rfl]
          · rw [ewk σ1.endF (if_pos ⟨rfl, q⟩), if_pos hok]
            show (nI (σ1.src.length - σ1.don), σ1.endF.1) = _
            rw [q, Nat.sub_self]
          · rw [ewk σ1.endF (if_pos ⟨rfl, q⟩), if_neg (by rw [hok]; decide)]
        · rw [ewk (σ.works x.toInt.toNat) (if_neg (fun z => by rw [hok] at z; cases z.1)), if_neg (by rw [hok]; decide), hgu]
          exact m_work_86f hX x hR' hj' hn' hk' 86 (Or.inl rfl) L hL
      · have hw0 := eST hr (Or.inr (Decidable.byContradiction fun q => by rw [if_neg q] at hc; exact hc rfl))
        refine wp_ldc (pc := 34) (v := -1000003) dX7_work_34 cn_LevelStoreModel_136 ?_
        refine wp_ret (pc := 36) dX7_work_36 rfl (by first | trivial | exact Or.inl rfl | exact Or.inr rfl | assumption) ?_
        exact mP.id h1 hw0 hk1
  · have hb := ite01 hc
    refine wp_ldc (pc := 17) (v := -1000002) dX7_work_17 cn_LevelStoreModel_111 ?_
    refine wp_ret (pc := 19) dX7_work_19 rfl (by first | trivial | exact Or.inl rfl | exact Or.inr rfl | assumption) ?_
    exact mP.id h1 (eBAD (by omega)) hk1
end M17
