/-! THE REFERENCE: does -/
section M16
variable {σ : St} {n : Nat} {S : ab_SH} {R : ab_RR} {I : ab_II} {SL : Nat → List Nat}
theorem RMc.made (h : RMc σ I SL) {J : ab_II} (hf : fM I J [59, 60, 61] [32]) (d : Nat) {es : List En} (h32 : J 39 32 = nI es.length) (ha : arr3 J 59 60 61 0 es) : RMc (σ.J d es) J SL := by
  have ka : ∀ j, j < 59 → j ≠ 39 → J j = I j := fun j h1 h2 => hf.1 j (by simp; omega) h2
  have kf : ∀ k, k ≠ 32 → J 39 k = I 39 k := fun k h1 => hf.2 k (by simp [h1])
  obtain ⟨c1, c2, c3, c4, c5⟩ := h
  refine ⟨⟨by rw [kf 1 (by decide)]; exact c1.1, c1.2.keep (ka _ (by decide) (by decide)) (ka _ (by decide) (by decide)) (ka _ (by decide) (by decide))⟩, ⟨by rw [kf 2 (by decide)]; exact c2.1, by rw [kf 6 (by decide)]; exact c2.2.1, fun k q => by rw [ka 43 (by decide) (by decide)]; exact c2.2.2 k q⟩, c3.keep (fun j h1 h2 => ka j (by omega) (by omega)), ⟨by rw [kf 16 (by decide)]; exact c4.1, fun j q => by rw [ka 52 (by decide) (by decide)]; exact c4.2 j q⟩, ⟨by rw [kf 20 (by decide)]; exact c5.1, by rw [kf 30 (by decide)]; exact c5.2.1, fun q => ?_⟩⟩
  obtain ⟨d1, d2, d3, d4, d5, d6, d7, d8⟩ := c5.2.2 q
  exact ⟨by rw [kf 21 (by decide)]; exact d1, by rw [kf 22 (by decide)]; exact d2, d3.keep (ka _ (by decide) (by decide)) (ka _ (by decide) (by decide)) (ka _ (by decide) (by decide)), fun k q => by rw [ka 58 (by decide) (by decide)]; exact d4 k q, fun q => by rw [kf 29 (by decide)]; exact d5 q, h32, ha, fun g hg => by rw [ka 57 (by decide) (by decide)]; exact d8 g hg⟩
theorem m_does_55 (hX : Fx n S R) {J : ab_II} (h : RMc σ J SL) (hj : σ.job = true) (hs : σ.src.length ≤ 512) (hm24 : σ.mak.length < 40) {k : Nat} (hk : k < σ.src.length) (d : Nat) {post : ab_Po} (hpost : ∀ J', fM J J' [59, 60, 61] [32] → RMc (σ.J d (σ.mak ++ [lfn σ.src k])) J' SL → post (some (.int 1)) (n, S, R, J')) (L : List (Nat × Value)) (hL : ab_sub L [(0, .ref 39), (1, .int (nI k))]) : wp 3 67 0 0 MX7_does 55 L [] (n, S, R, J) post := by
  refine wp_loc hL ?_
  have z54 : (S 54).2 = 1200 := hX.len (by decide)
  have z55 : (S 55).2 = 1200 := hX.len (by decide)
  have z56 : (S 56).2 = 1200 := hX.len (by decide)
  have z59 : (S 59).2 = 40 := hX.len (by decide)
  have z60 : (S 60).2 = 40 := hX.len (by decide)
  have z61 : (S 61).2 = 40 := hX.len (by decide)
  obtain ⟨d1, d2, d3, d4, d5, d6, d7, d8⟩ := h.jb.2.2 hj
  have e32 : (J 39 32).toInt = σ.mak.length := by rw [d6, tI_n (by omega)]
  have c32 : (J 39 32).toNatClampNeg = σ.mak.length := by rw [tI_c]; omega
  have ek : (nI k).toInt = k := tI_n (by omega)
  have ck : (nI k).toNatClampNeg = k := nI_c (by omega)
  obtain ⟨a1, a2, a3⟩ := d3.at (j := k) hk
  rw [Nat.zero_add] at a1 a2 a3
  first | refine wp_aload_n (pc := 55) dX7_does_55 rfl ?_ | refine wp_aload_nN (pc := 55) dX7_does_55 rfl ?_
  refine wp_getR (pc := 56) dX7_does_56 fl_LevelStoreModel_68 (by first | assumption | exact Fx.ok (by assumption) (by decide)) rfl (by first | assumption | exact Fx.ref (by assumption) rfl) ?_
  first | refine wp_aload_n (pc := 59) dX7_does_59 rfl ?_ | refine wp_aload_nN (pc := 59) dX7_does_59 rfl ?_
  refine wp_getI (pc := 60) dX7_does_60 fl_LevelStoreModel_159 (by first | assumption | exact Fx.ok (by assumption) (by decide)) rfl ?_
  first | refine wp_aload_n (pc := 63) dX7_does_63 rfl ?_ | refine wp_aload_nN (pc := 63) dX7_does_63 rfl ?_
  refine wp_getR (pc := 64) dX7_does_64 fl_LevelStoreModel_52 (by first | assumption | exact Fx.ok (by assumption) (by decide)) rfl (by first | assumption | exact Fx.ref (by assumption) rfl) ?_
  refine wp_iload_n (pc := 67) dX7_does_67 rfl ?_
  refine wp_iaload (pc := 68) dX7_does_68 (by first | assumption | exact Fx.ok (by assumption) (by decide)) (in_I (by omega) (by rw [z54]; omega)) ?_
  rw [ck, a1]
  refine wp_iastore (pc := 69) dX7_does_69 (by first | assumption | exact Fx.ok (by assumption) (by decide)) (in_I (by omega) (by rw [z59]; omega)) ?_
  rw [c32]
  first | refine wp_aload_n (pc := 70) dX7_does_70 rfl ?_ | refine wp_aload_nN (pc := 70) dX7_does_70 rfl ?_
  refine wp_getR (pc := 71) dX7_does_71 fl_LevelStoreModel_71 (by first | assumption | exact Fx.ok (by assumption) (by decide)) rfl (by first | assumption | exact Fx.ref (by assumption) rfl) ?_
  first | refine wp_aload_n (pc := 74) dX7_does_74 rfl ?_ | refine wp_aload_nN (pc := 74) dX7_does_74 rfl ?_
  refine wp_getI (pc := 75) dX7_does_75 fl_LevelStoreModel_159 (by first | assumption | exact Fx.ok (by assumption) (by decide)) rfl ?_
  rw [ab_u2_r _ _ (by decide)]
  first | refine wp_aload_n (pc := 78) dX7_does_78 rfl ?_ | refine wp_aload_nN (pc := 78) dX7_does_78 rfl ?_
  refine wp_getR (pc := 79) dX7_does_79 fl_LevelStoreModel_55 (by first | assumption | exact Fx.ok (by assumption) (by decide)) rfl (by first | assumption | exact Fx.ref (by assumption) rfl) ?_
  refine wp_iload_n (pc := 82) dX7_does_82 rfl ?_
  refine wp_iaload (pc := 83) dX7_does_83 (by first | assumption | exact Fx.ok (by assumption) (by decide)) (in_I (by omega) (by rw [z55]; omega)) ?_
  rw [ck, ab_u2_r _ _ (by decide), a2]
  refine wp_iastore (pc := 84) dX7_does_84 (by first | assumption | exact Fx.ok (by assumption) (by decide)) (in_I (by omega) (by rw [z60]; omega)) ?_
  rw [c32]
  first | refine wp_aload_n (pc := 85) dX7_does_85 rfl ?_ | refine wp_aload_nN (pc := 85) dX7_does_85 rfl ?_
  refine wp_getR (pc := 86) dX7_does_86 fl_LevelStoreModel_74 (by first | assumption | exact Fx.ok (by assumption) (by decide)) rfl (by first | assumption | exact Fx.ref (by assumption) rfl) ?_
  first | refine wp_aload_n (pc := 89) dX7_does_89 rfl ?_ | refine wp_aload_nN (pc := 89) dX7_does_89 rfl ?_
  refine wp_getI (pc := 90) dX7_does_90 fl_LevelStoreModel_159 (by first | assumption | exact Fx.ok (by assumption) (by decide)) rfl ?_
  rw [ab_u2_n _ _ (Or.inl (by decide)), ab_u2_n _ _ (Or.inl (by decide))]
  first | refine wp_aload_n (pc := 93) dX7_does_93 rfl ?_ | refine wp_aload_nN (pc := 93) dX7_does_93 rfl ?_
  refine wp_getR (pc := 94) dX7_does_94 fl_LevelStoreModel_58 (by first | assumption | exact Fx.ok (by assumption) (by decide)) rfl (by first | assumption | exact Fx.ref (by assumption) rfl) ?_
  refine wp_iload_n (pc := 97) dX7_does_97 rfl ?_
  refine wp_iaload (pc := 98) dX7_does_98 (by first | assumption | exact Fx.ok (by assumption) (by decide)) (in_I (by omega) (by rw [z56]; omega)) ?_
  rw [ck, ab_u2_n _ _ (Or.inl (by decide)), ab_u2_n _ _ (Or.inl (by decide)), a3]
  refine wp_iastore (pc := 99) dX7_does_99 (by first | assumption | exact Fx.ok (by assumption) (by decide)) (in_I (by omega) (by rw [z61]; omega)) ?_
  rw [c32]
  first | refine wp_aload_n (pc := 100) dX7_does_100 rfl ?_ | refine wp_aload_nN (pc := 100) dX7_does_100 rfl ?_
  refine wp_dup (pc := 101) dX7_does_101 rfl ?_
  refine wp_getI (pc := 102) dX7_does_102 fl_LevelStoreModel_159 (by first | assumption | exact Fx.ok (by assumption) (by decide)) rfl ?_
  rw [ab_u2_n _ _ (Or.inl (by decide)), ab_u2_n _ _ (Or.inl (by decide)), ab_u2_n _ _ (Or.inl (by decide)), d6]
  refine wp_iconst (pc := 105) (v := 1) dX7_does_105 (by decide) ?_
  refine wp_iadd (pc := 106) dX7_does_106 ?_
  rw [nI_1]
  refine wp_putI (pc := 107) dX7_does_107 fl_LevelStoreModel_159 (by first | assumption | exact Fx.ok (by assumption) (by decide)) rfl rfl (Or.inl rfl) ?_
  refine wp_iconst (pc := 110) (v := 1) dX7_does_110 (by decide) ?_
  refine wp_ret (pc := 111) dX7_does_111 rfl (by first | trivial | exact Or.inl rfl | exact Or.inr rfl | assumption) ?_
  refine hpost _ ?_ (h.made ?_ d ?_ ?_)
  · exact (((fM.ua (by simp) (by decide)).tr1 (fM.ua (by simp) (by decide))).tr1 (fM.ua (by simp) (by decide))).tr1 (fM.uf (by simp))
  · exact (((fM.ua (by simp) (by decide)).tr1 (fM.ua (by simp) (by decide))).tr1 (fM.ua (by simp) (by decide))).tr1 (fM.uf (by simp))
  · rw [ab_u2_s, List.length_append]; rfl
  · refine arr3_push d7 (fun i hi => ?_) (fun i hi => ?_) (fun i hi => ?_) ?_ ?_ ?_
    · rw [ab_u2_n _ _ (Or.inl (by decide)), ab_u2_n _ _ (Or.inl (by decide)), ab_u2_n _ _ (Or.inl (by decide)), ab_u2_n _ _ (Or.inr (by omega))]
    · rw [ab_u2_n _ _ (Or.inl (by decide)), ab_u2_n _ _ (Or.inl (by decide)), ab_u2_n _ _ (Or.inr (by omega)), ab_u2_n _ _ (Or.inl (by decide))]
    · rw [ab_u2_n _ _ (Or.inl (by decide)), ab_u2_n _ _ (Or.inr (by omega)), ab_u2_n _ _ (Or.inl (by decide)), ab_u2_n _ _ (Or.inl (by decide))]
    · rw [Nat.zero_add, ab_u2_n _ _ (Or.inl (by decide)), ab_u2_n _ _ (Or.inl (by decide)), ab_u2_n _ _ (Or.inl (by decide)), ab_u2_s]
    · rw [Nat.zero_add, ab_u2_n _ _ (Or.inl (by decide)), ab_u2_n _ _ (Or.inl (by decide)), ab_u2_s]
    · rw [Nat.zero_add, ab_u2_n _ _ (Or.inl (by decide)), ab_u2_s]
theorem m_does (hX : Fx n S R) (h : RMc σ I SL) (hO : OKD σ) (hd : σ.don < σ.src.length) : wp 3 67 0 0 MX7_does 0 [(0, .ref 39), (1, .int (nI σ.don))] [] (n, S, R, I) (fun v hh => ∃ J SL', hh = (n, S, R, J) ∧ fM I J enC enK ∧ ((v = some (.int 1) ∧ σ.doE.2 = true ∧ RMc σ.doE.1 J SL') ∨ (v = some (.int 0) ∧ σ.doE.2 = false ∧ RMc σ J SL' ∧ σ.doE.1.giveUp = σ.giveUp))) := by
  obtain ⟨hj, hs, hm, hP, hv, hc0, htg, hnf, hdl⟩ := hO
  have z54 : (S 54).2 = 1200 := hX.len (by decide)
  have z59 : (S 59).2 = 40 := hX.len (by decide)
  obtain ⟨d1, d2, d3, d4, d5, d6, d7, d8⟩ := h.jb.2.2 hj
  have h24 := hv.2.2
  have e32 : (I 39 32).toInt = σ.mak.length := by rw [d6, tI_n (by omega)]
  have e21 : (I 39 21).toInt = (σ.tgt : Int) - 1 := by rw [d1, tI_sub (by rw [tI_n (by omega), tl_1]; omega) (by rw [tI_n (by omega), tl_1]; omega), tI_n (by omega), tl_1]
  have ed : (nI σ.don).toInt = σ.don := tI_n (by omega)
  have cd0 : (nI σ.don).toNatClampNeg = σ.don := nI_c (by omega)
  have a1 := (d3.at (j := σ.don) hd).1
  rw [Nat.zero_add] at a1
  have nocut : ¬ σ.lo σ.don → ¬ σ.cut → ∀ L, ab_sub L [(0, .ref 39), (1, .int (nI σ.don))] → wp 3 67 0 0 MX7_does 55 L [] (n, S, R, I) (fun v hh => ∃ J SL', hh = (n, S, R, J) ∧ fM I J enC enK ∧ ((v = some (.int 1) ∧ σ.doE.2 = true ∧ RMc σ.doE.1 J SL') ∨ (v = some (.int 0) ∧ σ.doE.2 = false ∧ RMc σ J SL' ∧ σ.doE.1.giveUp = σ.giveUp))) := fun hlo hcut L hL => m_does_55 hX h hj hs (by omega) hd (σ.don + 1) (fun J' hf' hR' => ⟨J', SL, rfl, hf'.tr (C'' := enC) (K'' := enK) (fM.rf (C := []) (K := [])) (by simp) (by simp) (by simp) (by simp), Or.inl ⟨rfl, by rw [doE_no hlo hcut], by rw [doE_no hlo hcut]; exact hR'⟩⟩) L hL
  have k50a : ∀ (J : ab_II) (SL' : Nat → List Nat), ¬ σ.lo σ.don → σ.cut → fM I J enC enK → (σ.J (σ.don + 1) σ.mak).endF.2 = true → RMc (σ.J (σ.don + 1) σ.mak).endF.1 J SL' → ∀ L, ab_sub L [(0, .ref 39), (1, .int (nI σ.don))] → wp 3 67 0 0 MX7_does 50 L [.int 1] (n, S, R, J) (fun v hh => ∃ J SL', hh = (n, S, R, J) ∧ fM I J enC enK ∧ ((v = some (.int 1) ∧ σ.doE.2 = true ∧ RMc σ.doE.1 J SL') ∨ (v = some (.int 0) ∧ σ.doE.2 = false ∧ RMc σ J SL' ∧ σ.doE.1.giveUp = σ.giveUp))) := by
    intro J SL' hlo hcut hf hok hR L hL
    refine wp_loc hL ?_
    have hE := doE_cut hlo hcut
    rw [hok, if_pos rfl] at hE
    have esm := endF_same (σ := σ.J (σ.don + 1) σ.mak)
    have em := endF_mak (σ := σ.J (σ.don + 1) σ.mak) hok
    refine wp_if_ne (pc := 50) (tgt := 55) dX7_does_50 (by decide) (fun hc => ?_) (fun hc => ?_)
    · skip
      refine m_does_55 hX hR (by rw [esm.2.2.1]; exact hj) (by rw [esm.2.1]; exact hs) (by rw [em]; decide) (k := σ.don) (by rw [esm.2.1]; exact hd) (σ.don + 1) (fun J' hf' hR' => ⟨J', SL', rfl, hf.tr1 (hf'.tr (C'' := enC) (K'' := enK) (fM.rf (C := []) (K := [])) (by simp) (by simp) (by simp) (by simp)), Or.inl ⟨rfl, by rw [hE], ?_⟩⟩) _ ⟨rfl, rfl, trivial⟩
      rw [em, esm.2.1] at hR'
      rw [hE]
      exact hR'
    · exact absurd hc (by decide)
  have k50b : ∀ (J : ab_II) (SL' : Nat → List Nat), ¬ σ.lo σ.don → σ.cut → fM I J enC enK → (σ.J (σ.don + 1) σ.mak).endF.2 = false → RMc (σ.J (σ.don + 1) σ.mak) J SL' → ∀ L, ab_sub L [(0, .ref 39), (1, .int (nI σ.don))] → wp 3 67 0 0 MX7_does 50 L [.int 0] (n, S, R, J) (fun v hh => ∃ J SL', hh = (n, S, R, J) ∧ fM I J enC enK ∧ ((v = some (.int 1) ∧ σ.doE.2 = true ∧ RMc σ.doE.1 J SL') ∨ (v = some (.int 0) ∧ σ.doE.2 = false ∧ RMc σ J SL' ∧ σ.doE.1.giveUp = σ.giveUp))) := by
    intro J SL' hlo hcut hf hok hR L hL
    refine wp_loc hL ?_
    have hE := doE_cut hlo hcut
    rw [hok, if_neg (by decide)] at hE
    have hg : (σ.J (σ.don + 1) σ.mak).endF.1.giveUp = σ.giveUp := by
      by_cases hne : σ.mak = []
      · rw [endF_nil (σ := σ.J (σ.don + 1) σ.mak) hne]; rfl
      · cases hr : room σ.FS (enc σ.mak).length with
        | none => rw [endF_none (σ := σ.J (σ.don + 1) σ.mak) hne hr]; rfl
        | some p => rw [endF_some (σ := σ.J (σ.don + 1) σ.mak) hne hr] at hok; cases hok
    refine wp_if_ne (pc := 50) (tgt := 55) dX7_does_50 (by decide) (fun hc => ?_) (fun hc => ?_)
    · exact absurd rfl hc
    · skip
      refine wp_iconst (pc := 53) (v := 0) dX7_does_53 (by decide) ?_
      refine wp_ret (pc := 54) dX7_does_54 rfl (by first | trivial | exact Or.inl rfl | exact Or.inr rfl | assumption) ?_
      exact ⟨J, SL', rfl, hf, Or.inr ⟨rfl, by rw [hE], hR, by rw [hE]; exact hg⟩⟩
  first | refine wp_aload_n (pc := 0) dX7_does_0 rfl ?_ | refine wp_aload_nN (pc := 0) dX7_does_0 rfl ?_
  refine wp_iload_n (pc := 1) dX7_does_1 rfl ?_
  refine cv_LevelStoreModel_204 (pc := 2) (m_isLeftOut hX (src := σ.src) (V := σ.JV) ⟨d2, d3⟩ d4 (by omega) htg d1 hd) rfl dX7_does_2 (by first | assumption | exact Fx.ok (by assumption) (by decide)) ⟨by decide, by decide, Nat.zero_le _, Nat.zero_le _⟩ (Nat.le_of_ble_eq_true rfl) (fun v h hp => ?_)
  obtain ⟨rfl, xl, rfl, hxl⟩ := hp
  refine wp_if_eq (pc := 5) (tgt := 10) dX7_does_5 (by decide) (fun hc => ?_) (fun hc => ?_)
  · have hlo : ¬ σ.lo σ.don := bit_f hxl hc
    first | refine wp_aload_n (pc := 10) dX7_does_10 rfl ?_ | refine wp_aload_nN (pc := 10) dX7_does_10 rfl ?_
    refine wp_getI (pc := 11) dX7_does_11 fl_LevelStoreModel_150 (by first | assumption | exact Fx.ok (by assumption) (by decide)) rfl ?_
    refine wp_if_lt (pc := 14) (tgt := 55) dX7_does_14 (by decide) (fun hc => ?_) (fun hc => ?_)
    · have hcut : ¬ σ.cut := fun q => by have := q.1; omega
      exact nocut hlo hcut _ ⟨rfl, rfl, trivial⟩
    · have ht0 : σ.tgt ≠ 0 := by omega
      first | refine wp_aload_n (pc := 17) dX7_does_17 rfl ?_ | refine wp_aload_nN (pc := 17) dX7_does_17 rfl ?_
      refine wp_getI (pc := 18) dX7_does_18 fl_LevelStoreModel_159 (by first | assumption | exact Fx.ok (by assumption) (by decide)) rfl ?_
      refine wp_bipush (pc := 21) (v := 8) dX7_does_21 (by decide) ?_
      refine wp_icmp_lt (pc := 23) (tgt := 55) dX7_does_23 (by decide) (fun hc => ?_) (fun hc => ?_)
      · rw [tl_8, e32] at hc
        have hcut : ¬ σ.cut := fun q => by have := q.2.1; omega
        exact nocut hlo hcut _ ⟨rfl, rfl, trivial⟩
      · rw [tl_8, e32] at hc
        have hne : σ.mak ≠ [] := fun q => by rw [q] at hc; exact absurd hc (by decide)
        have e1 : I 39 32 - 1 = nI (σ.mak.length - 1) := by rw [d6]; exact pk_sub (b := 1) (by omega)
        have e2 : (nI (σ.mak.length - 1)).toInt = ((σ.mak.length - 1 : Nat) : Int) := tI_n (by omega)
        have c2 : (nI (σ.mak.length - 1)).toNatClampNeg = σ.mak.length - 1 := nI_c (by omega)
        have b1 := (d7.at (j := σ.mak.length - 1) (by omega)).1
        rw [Nat.zero_add, ← gk_lfn hne] at b1
        have hc8 := hc
        first | refine wp_aload_n (pc := 26) dX7_does_26 rfl ?_ | refine wp_aload_nN (pc := 26) dX7_does_26 rfl ?_
        refine wp_getR (pc := 27) dX7_does_27 fl_LevelStoreModel_68 (by first | assumption | exact Fx.ok (by assumption) (by decide)) rfl (by first | assumption | exact Fx.ref (by assumption) rfl) ?_
        first | refine wp_aload_n (pc := 30) dX7_does_30 rfl ?_ | refine wp_aload_nN (pc := 30) dX7_does_30 rfl ?_
        refine wp_getI (pc := 31) dX7_does_31 fl_LevelStoreModel_159 (by first | assumption | exact Fx.ok (by assumption) (by decide)) rfl ?_
        refine wp_iconst (pc := 34) (v := 1) dX7_does_34 (by decide) ?_
        refine wp_isub (pc := 35) dX7_does_35 ?_
        rw [e1]
        refine wp_iaload (pc := 36) dX7_does_36 (by first | assumption | exact Fx.ok (by assumption) (by decide)) (in_I (by omega) (by rw [z59]; omega)) ?_
        rw [c2, b1]
        first | refine wp_aload_n (pc := 37) dX7_does_37 rfl ?_ | refine wp_aload_nN (pc := 37) dX7_does_37 rfl ?_
        refine wp_getR (pc := 38) dX7_does_38 fl_LevelStoreModel_52 (by first | assumption | exact Fx.ok (by assumption) (by decide)) rfl (by first | assumption | exact Fx.ref (by assumption) rfl) ?_
        refine wp_iload_n (pc := 41) dX7_does_41 rfl ?_
        refine wp_iaload (pc := 42) dX7_does_42 (by first | assumption | exact Fx.ok (by assumption) (by decide)) (in_I (by omega) (by rw [z54]; omega)) ?_
        rw [cd0, a1]
        refine wp_icmp_eq (pc := 43) (tgt := 55) dX7_does_43 (by decide) (fun hc => ?_) (fun hc => ?_)
        · have hcut : ¬ σ.cut := fun q => q.2.2 hc
          exact nocut hlo hcut _ ⟨rfl, rfl, trivial⟩
        · have hcut : σ.cut := ⟨ht0, by omega, hc⟩
          have hE := doE_cut hlo hcut
          first | refine wp_aload_n (pc := 46) dX7_does_46 rfl ?_ | refine wp_aload_nN (pc := 46) dX7_does_46 rfl ?_
          refine cv_LevelStoreModel_207 (pc := 47) (m_ends hX (σ := σ.J (σ.don + 1) σ.mak) h hj htg hP hv hc0) rfl dX7_does_47 (by first | assumption | exact Fx.ok (by assumption) (by decide)) ⟨by decide, by decide, Nat.zero_le _, Nat.zero_le _⟩ (Nat.le_of_ble_eq_true rfl) (fun v h hp => ?_)
          obtain ⟨J, SL', rfl, hf, ⟨rfl, hok, hR⟩ | ⟨rfl, hok, hR⟩⟩ := hp
          · exact k50a J SL' hlo hcut hf hok hR _ ⟨rfl, rfl, trivial⟩
          · exact k50b J SL' hlo hcut hf hok hR _ ⟨rfl, rfl, trivial⟩
  · have hlo : σ.lo σ.don := bit_t hxl hc
    refine wp_iconst (pc := 8) (v := 1) dX7_does_8 (by decide) ?_
    refine wp_ret (pc := 9) dX7_does_9 rfl (by first | trivial | exact Or.inl rfl | exact Or.inr rfl | assumption) ?_
    rw [doE_lo hlo]; exact ⟨I, SL, rfl, fM.rf, Or.inl ⟨rfl, rfl, h⟩⟩
end M16
