/-! merge, from its beginning -/
section MG
variable {σ : St} {n : Nat} {S : ab_SH} {R : ab_RR} {I : ab_II} {A : AC} {P : Nat → List Nat} {sp : List FA}
def mOK (σ : St) : Prop := ∀ l i : Nat, l < 3 → σ.FS l ≠ [] → (l ≠ 0 → i < (σ.FS l).length) → σ.mtf l i ≤ σ.mtt l i ∧ (msrc (σ.msl l i) (σ.mdn l i)).length ≤ 750
theorem s_merge_39 (h : RC σ n S R I A P sp) (hid : idle σ) (hM : mOK σ) {l : Nat} (hl : l < 3) (i : Int32) (hi : l ≠ 0 → 0 ≤ i.toInt ∧ i.toInt < (σ.FS l).length) (L : List (Nat × Value)) (hL : ab_sub L [(0, .ref 3), (1, .int (nI l)), (2, .int i), (3, .ref (fk l)), (4, .ref (fk (l + 1)))]) :
    wp 5 118 0 0 MX6_merge 39 L [] (n, S, R, I) (cP I n S R (σ.merge (nI l) i)) := by
  refine wp_loc hL ?_
  have hX := h.fx
  obtain ⟨aL, aF, aR⟩ := h.lvk (k := l) (by omega) (by omega)
  have of1 := aR.1
  have ell := aF.1
  have htot := h.tp
  have htl := tot_le (P := P) (k := l) (by omega)
  have el : (nI l).toInt = l := tI_n (by omega)
  have ePl : (nI (P l).length).toInt = (σ.FS l).length := by rw [tI_n (by omega), ell]
  have hcond : ¬ (0 < (nI l).toInt ∧ ¬ (0 ≤ i.toInt ∧ i.toInt < ((σ.FS (nI l).toInt.toNat).length : Int))) := by
    rw [el, Int.toNat_natCast]
    intro q
    exact q.2 (hi (by omega))
  have hst : (σ.job = true ∨ σ.FS l = []) → σ.merge (nI l) i = (cSTATE, σ) := fun q => by
    unfold St.merge
    rw [if_pos ⟨by omega, by omega⟩, if_neg hcond]
    rw [el, Int.toNat_natCast, if_pos q]
  have hgo : σ.job = false → σ.FS l ≠ [] → σ.merge (nI l) i = (nI (msrc (σ.msl l i.toInt.toNat) (σ.mdn l i.toInt.toNat)).length, σ.mergeB l i.toInt.toNat) := fun q z => by
    unfold St.merge
    rw [if_pos ⟨by omega, by omega⟩, if_neg hcond]
    rw [el, Int.toNat_natCast, if_neg (fun w => w.elim (fun w => by rw [q] at w; cases w) z)]
  by_cases hl0 : l = 0
  · skip
    first | refine wp_aload_n (pc := 39) dX6_merge_39 rfl ?_ | refine wp_aload_nN (pc := 39) dX6_merge_39 rfl ?_
    refine wp_getR (pc := 40) dX6_merge_40 fl_LevelStore_50 (by first | assumption | exact Fx.ok (by assumption) (by decide)) rfl (by first | assumption | exact Fx.ref (by assumption) rfl) ?_
    refine wp_getI (pc := 43) dX6_merge_43 fl_LevelStore_108 (by first | assumption | exact Fx.ok (by assumption) (by decide)) rfl ?_
    refine wp_if_ne (pc := 46) (tgt := 56) dX6_merge_46 (by decide) (fun hc => ?_) (fun hc => ?_)
    · have hjt : σ.job = true := by cases q : σ.job <;> rw [h.cj.1, q] at hc <;> first | rfl | exact absurd rfl hc
      refine wp_ldc (pc := 56) (v := -1000003) dX6_merge_56 cn_LevelStore_107 ?_
      refine wp_ret (pc := 58) dX6_merge_58 rfl (by first | trivial | exact Or.inl rfl | exact Or.inr rfl | assumption) ?_
      first | exact cP.id2 h (hst (Or.inl hjt)) | exact cP.id2 h (hst (Or.inr (List.length_eq_zero_iff.mp (by omega))))
    · have hjf : σ.job = false := by cases q : σ.job <;> rw [h.cj.1, q] at hc <;> first | rfl | exact absurd hc (by decide)
      first | refine wp_aload_n (pc := 49) dX6_merge_49 rfl ?_ | refine wp_aload_nN (pc := 49) dX6_merge_49 rfl ?_
      refine cv_LevelStore_154 (pc := 50) (s_X1_size aR aL) rfl dX6_merge_50 (by first | assumption | exact Fx.ok (by assumption) (by decide)) ⟨by decide, by decide, Nat.zero_le _, Nat.zero_le _⟩ (Nat.le_of_ble_eq_true rfl) (fun v h hp => ?_)
      obtain ⟨rfl, rfl⟩ := hp
      refine wp_if_ne (pc := 53) (tgt := 59) dX6_merge_53 (by decide) (fun hc => ?_) (fun hc => ?_)
      · have hne : σ.FS l ≠ [] := fun q => by rw [ePl, q] at hc; exact absurd rfl hc
        first | refine wp_aload_n (pc := 59) dX6_merge_59 rfl ?_ | refine wp_aload_nN (pc := 59) dX6_merge_59 rfl ?_
        refine wp_getR (pc := 60) dX6_merge_60 fl_LevelStore_50 (by first | assumption | exact Fx.ok (by assumption) (by decide)) rfl (by first | assumption | exact Fx.ref (by assumption) rfl) ?_
        refine wp_iload_n (pc := 63) dX6_merge_63 rfl ?_
        refine wp_iload_n (pc := 64) dX6_merge_64 rfl ?_
        refine wp_iconst (pc := 65) (v := 1) dX6_merge_65 (by decide) ?_
        refine wp_iadd (pc := 66) dX6_merge_66 ?_
        rw [nI_1]
        refine cv_LevelStore_112 (pc := 67) (s_X2_begin hX (nI l) (nI (l + 1))) rfl dX6_merge_67 (by first | assumption | exact Fx.ok (by assumption) (by decide)) ⟨by decide, by decide, Nat.zero_le _, Nat.zero_le _⟩ (Nat.le_of_ble_eq_true rfl) (fun v h hp => ?_)
        obtain ⟨rfl, rfl⟩ := hp
        first | refine wp_aload_n (pc := 70) dX6_merge_70 rfl ?_ | refine wp_aload_nN (pc := 70) dX6_merge_70 rfl ?_
        refine wp_getR (pc := 71) dX6_merge_71 fl_LevelStore_50 (by first | assumption | exact Fx.ok (by assumption) (by decide)) rfl (by first | assumption | exact Fx.ref (by assumption) rfl) ?_
        refine wp_iload_n (pc := 74) dX6_merge_74 rfl ?_
        refine wp_if_ne (pc := 75) (tgt := 82) dX6_merge_75 (by decide) (fun hc => ?_) (fun hc => ?_)
        · omega
        · skip
          refine wp_iconst (pc := 78) (v := 0) dX6_merge_78 (by decide) ?_
          refine wp_goto (pc := 79) (tgt := 83) dX6_merge_79 (by decide) ?_
          refine wp_putI (pc := 83) dX6_merge_83 fl_LevelStore_156 (by first | assumption | exact Fx.ok (by assumption) (by decide)) rfl rfl (Or.inl rfl) ?_
          first | refine wp_aload_n (pc := 86) dX6_merge_86 rfl ?_ | refine wp_aload_nN (pc := 86) dX6_merge_86 rfl ?_
          refine wp_getR (pc := 87) dX6_merge_87 fl_LevelStore_50 (by first | assumption | exact Fx.ok (by assumption) (by decide)) rfl (by first | assumption | exact Fx.ref (by assumption) rfl) ?_
          refine wp_iload_n (pc := 90) dX6_merge_90 rfl ?_
          refine wp_if_ne (pc := 91) (tgt := 101) dX6_merge_91 (by decide) (fun hc => ?_) (fun hc => ?_)
          · omega
          · skip
            first | refine wp_aload_n (pc := 94) dX6_merge_94 rfl ?_ | refine wp_aload_nN (pc := 94) dX6_merge_94 rfl ?_
            have hf2 : ab_fr I (ab_u2 (ab_u2 (ab_u2 (ab_u2 I 27 0 1) 27 1 (nI l)) 27 4 (nI (l + 1))) 27 2 0) [27] := fun j hj => by
              simp only [List.mem_cons, List.not_mem_nil, or_false] at hj
              rw [ab_u2_r _ _ hj, ab_u2_r _ _ hj, ab_u2_r _ _ hj, ab_u2_r _ _ hj]
            obtain ⟨aL2, -, -⟩ := h.lvI (k := l) (by omega) (I' := ab_u2 (ab_u2 (ab_u2 (ab_u2 I 27 0 1) 27 1 (nI l)) 27 4 (nI (l + 1))) 27 2 0) (fun j hj => hf2 j (by simp at hj; simp; omega))
            refine cv_LevelStore_154 (pc := 95) (s_X1_size aR aL2) rfl dX6_merge_95 (by first | assumption | exact Fx.ok (by assumption) (by decide)) ⟨by decide, by decide, Nat.zero_le _, Nat.zero_le _⟩ (Nat.le_of_ble_eq_true rfl) (fun v h hp => ?_)
            obtain ⟨rfl, rfl⟩ := hp
            rw [ell]
            refine wp_goto (pc := 98) (tgt := 104) dX6_merge_98 (by decide) ?_
            refine wp_putI (pc := 104) dX6_merge_104 fl_LevelStore_159 (by first | assumption | exact Fx.ok (by assumption) (by decide)) rfl rfl (Or.inl rfl) ?_
            refine wp_loc (L' := [(0, .ref 3), (1, .int (nI l)), (2, .int i), (3, .ref (fk l)), (4, .ref (fk (l + 1)))]) ⟨rfl, rfl, rfl, rfl, rfl, trivial⟩ ?_
            rw [hgo hjf hne]
            have em : mlf l i.toInt.toNat = 0 ∧ mlt l i.toInt.toNat (σ.FS l).length = (σ.FS l).length := ⟨if_pos hl0, if_pos hl0⟩
            obtain ⟨m1, m2⟩ := hM l i.toInt.toNat hl hne (fun q => absurd hl0 q)
            have es : σ.msl l i.toInt.toNat = slice (σ.FS l) 0 (σ.FS l).length := by unfold St.msl; rw [em.1, em.2]
            have := s_merge_fin h hid hjf hl (Nat.zero_le _) (Nat.le_refl (σ.FS l).length) (I1 := ab_u2 (ab_u2 (ab_u2 (ab_u2 (ab_u2 I 27 0 1) 27 1 (nI l)) 27 4 (nI (l + 1))) 27 2 0) 27 3 (nI (σ.FS l).length)) (fun j hj => by rw [ab_u2_r _ _ (by simpa using hj)]; exact hf2 j hj) rfl rfl rfl rfl rfl rfl (tf := σ.mtf l i.toInt.toNat) (tt := σ.mtt l i.toInt.toNat) (by unfold St.mtf; rw [es]) (by unfold St.mtt; rw [es]) m1 (src := msrc (σ.msl l i.toInt.toNat) (σ.mdn l i.toInt.toNat)) (by unfold St.mdn; rw [es]) m2 i (nI l)
            unfold St.mergeB
            rw [em.1, em.2]
            exact this
      · skip
        refine wp_ldc (pc := 56) (v := -1000003) dX6_merge_56 cn_LevelStore_107 ?_
        refine wp_ret (pc := 58) dX6_merge_58 rfl (by first | trivial | exact Or.inl rfl | exact Or.inr rfl | assumption) ?_
        first | exact cP.id2 h (hst (Or.inl hjt)) | exact cP.id2 h (hst (Or.inr (List.length_eq_zero_iff.mp (by omega))))
  · have hii := hi hl0
    have ei : i = nI i.toInt.toNat := tI_N (by omega)
    have ei1 : i + 1 = nI (i.toInt.toNat + 1) := by
      have := nI_1 i.toInt.toNat
      rw [← ei] at this
      exact this
    have hne : σ.FS l ≠ [] := fun q => by rw [q] at hii; simp at hii; omega
    first | refine wp_aload_n (pc := 39) dX6_merge_39 rfl ?_ | refine wp_aload_nN (pc := 39) dX6_merge_39 rfl ?_
    refine wp_getR (pc := 40) dX6_merge_40 fl_LevelStore_50 (by first | assumption | exact Fx.ok (by assumption) (by decide)) rfl (by first | assumption | exact Fx.ref (by assumption) rfl) ?_
    refine wp_getI (pc := 43) dX6_merge_43 fl_LevelStore_108 (by first | assumption | exact Fx.ok (by assumption) (by decide)) rfl ?_
    refine wp_if_ne (pc := 46) (tgt := 56) dX6_merge_46 (by decide) (fun hc => ?_) (fun hc => ?_)
    · have hjt : σ.job = true := by cases q : σ.job <;> rw [h.cj.1, q] at hc <;> first | rfl | exact absurd rfl hc
      refine wp_ldc (pc := 56) (v := -1000003) dX6_merge_56 cn_LevelStore_107 ?_
      refine wp_ret (pc := 58) dX6_merge_58 rfl (by first | trivial | exact Or.inl rfl | exact Or.inr rfl | assumption) ?_
      first | exact cP.id2 h (hst (Or.inl hjt)) | exact cP.id2 h (hst (Or.inr (List.length_eq_zero_iff.mp (by omega))))
    · have hjf : σ.job = false := by cases q : σ.job <;> rw [h.cj.1, q] at hc <;> first | rfl | exact absurd hc (by decide)
      first | refine wp_aload_n (pc := 49) dX6_merge_49 rfl ?_ | refine wp_aload_nN (pc := 49) dX6_merge_49 rfl ?_
      refine cv_LevelStore_154 (pc := 50) (s_X1_size aR aL) rfl dX6_merge_50 (by first | assumption | exact Fx.ok (by assumption) (by decide)) ⟨by decide, by decide, Nat.zero_le _, Nat.zero_le _⟩ (Nat.le_of_ble_eq_true rfl) (fun v h hp => ?_)
      obtain ⟨rfl, rfl⟩ := hp
      refine wp_if_ne (pc := 53) (tgt := 59) dX6_merge_53 (by decide) (fun hc => ?_) (fun hc => ?_)
      · skip
        first | refine wp_aload_n (pc := 59) dX6_merge_59 rfl ?_ | refine wp_aload_nN (pc := 59) dX6_merge_59 rfl ?_
        refine wp_getR (pc := 60) dX6_merge_60 fl_LevelStore_50 (by first | assumption | exact Fx.ok (by assumption) (by decide)) rfl (by first | assumption | exact Fx.ref (by assumption) rfl) ?_
        refine wp_iload_n (pc := 63) dX6_merge_63 rfl ?_
        refine wp_iload_n (pc := 64) dX6_merge_64 rfl ?_
        refine wp_iconst (pc := 65) (v := 1) dX6_merge_65 (by decide) ?_
        refine wp_iadd (pc := 66) dX6_merge_66 ?_
        rw [nI_1]
        refine cv_LevelStore_112 (pc := 67) (s_X2_begin hX (nI l) (nI (l + 1))) rfl dX6_merge_67 (by first | assumption | exact Fx.ok (by assumption) (by decide)) ⟨by decide, by decide, Nat.zero_le _, Nat.zero_le _⟩ (Nat.le_of_ble_eq_true rfl) (fun v h hp => ?_)
        obtain ⟨rfl, rfl⟩ := hp
        first | refine wp_aload_n (pc := 70) dX6_merge_70 rfl ?_ | refine wp_aload_nN (pc := 70) dX6_merge_70 rfl ?_
        refine wp_getR (pc := 71) dX6_merge_71 fl_LevelStore_50 (by first | assumption | exact Fx.ok (by assumption) (by decide)) rfl (by first | assumption | exact Fx.ref (by assumption) rfl) ?_
        refine wp_iload_n (pc := 74) dX6_merge_74 rfl ?_
        refine wp_if_ne (pc := 75) (tgt := 82) dX6_merge_75 (by decide) (fun hc => ?_) (fun hc => ?_)
        · skip
          refine wp_iload_n (pc := 82) dX6_merge_82 rfl ?_
          refine wp_putI (pc := 83) dX6_merge_83 fl_LevelStore_156 (by first | assumption | exact Fx.ok (by assumption) (by decide)) rfl rfl (Or.inl rfl) ?_
          first | refine wp_aload_n (pc := 86) dX6_merge_86 rfl ?_ | refine wp_aload_nN (pc := 86) dX6_merge_86 rfl ?_
          refine wp_getR (pc := 87) dX6_merge_87 fl_LevelStore_50 (by first | assumption | exact Fx.ok (by assumption) (by decide)) rfl (by first | assumption | exact Fx.ref (by assumption) rfl) ?_
          refine wp_iload_n (pc := 90) dX6_merge_90 rfl ?_
          refine wp_if_ne (pc := 91) (tgt := 101) dX6_merge_91 (by decide) (fun hc => ?_) (fun hc => ?_)
          · skip
            refine wp_iload_n (pc := 101) dX6_merge_101 rfl ?_
            refine wp_iconst (pc := 102) (v := 1) dX6_merge_102 (by decide) ?_
            refine wp_iadd (pc := 103) dX6_merge_103 ?_
            rw [ei1]
            refine wp_putI (pc := 104) dX6_merge_104 fl_LevelStore_159 (by first | assumption | exact Fx.ok (by assumption) (by decide)) rfl rfl (Or.inl rfl) ?_
            refine wp_loc (L' := [(0, .ref 3), (1, .int (nI l)), (2, .int i), (3, .ref (fk l)), (4, .ref (fk (l + 1)))]) ⟨rfl, rfl, rfl, rfl, rfl, trivial⟩ ?_
            rw [hgo hjf hne]
            have em : mlf l i.toInt.toNat = i.toInt.toNat ∧ mlt l i.toInt.toNat (σ.FS l).length = i.toInt.toNat + 1 := ⟨if_neg hl0, if_neg hl0⟩
            obtain ⟨m1, m2⟩ := hM l i.toInt.toNat hl hne (fun q => by omega)
            have es : σ.msl l i.toInt.toNat = slice (σ.FS l) i.toInt.toNat (i.toInt.toNat + 1) := by unfold St.msl; rw [em.1, em.2]
            have := s_merge_fin h hid hjf hl (Nat.le_succ i.toInt.toNat) (by omega) (I1 := ab_u2 (ab_u2 (ab_u2 (ab_u2 (ab_u2 I 27 0 1) 27 1 (nI l)) 27 4 (nI (l + 1))) 27 2 i) 27 3 (nI (i.toInt.toNat + 1))) (fun j hj => by have hj2 : j ≠ 27 := (by simpa using hj); rw [ab_u2_r _ _ hj2, ab_u2_r _ _ hj2, ab_u2_r _ _ hj2, ab_u2_r _ _ hj2, ab_u2_r _ _ hj2]) rfl rfl ei rfl rfl rfl (tf := σ.mtf l i.toInt.toNat) (tt := σ.mtt l i.toInt.toNat) (by unfold St.mtf; rw [es]) (by unfold St.mtt; rw [es]) m1 (src := msrc (σ.msl l i.toInt.toNat) (σ.mdn l i.toInt.toNat)) (by unfold St.mdn; rw [es]) m2 i (nI l)
            unfold St.mergeB
            rw [em.1, em.2]
            exact this
          · omega
        · omega
      · skip
        refine wp_ldc (pc := 56) (v := -1000003) dX6_merge_56 cn_LevelStore_107 ?_
        refine wp_ret (pc := 58) dX6_merge_58 rfl (by first | trivial | exact Or.inl rfl | exact Or.inr rfl | assumption) ?_
        first | exact cP.id2 h (hst (Or.inl hjt)) | exact cP.id2 h (hst (Or.inr (List.length_eq_zero_iff.mp (by omega))))
theorem s_merge (h : RC σ n S R I A P sp) (hid : idle σ) (hM : mOK σ) (l i : Int32) : wp 5 118 0 0 MX6_merge 0 [(0, .ref 3), (1, .int l), (2, .int i)] [] (n, S, R, I) (cP I n S R (σ.merge l i)) := by
  have hX := h.fx
  by_cases hl : 0 ≤ l.toInt ∧ l.toInt ≤ 2
  · obtain ⟨m, hm, hlm⟩ : ∃ m : Nat, m < 3 ∧ l.toInt = m := ⟨l.toInt.toNat, by omega, by omega⟩
    have elm : l = nI m := tI_N hlm
    subst elm
    have l1 : isLv (nI m) := ⟨by omega, by omega⟩
    have l2 : isLv (nI (m + 1)) := ⟨by rw [tI_n (by omega)]; omega, by rw [tI_n (by omega)]; omega⟩
    have e1 : (nI m).toInt.toNat = m := by omega
    have e2 : (nI (m + 1)).toInt.toNat = m + 1 := by rw [tI_n (by omega)]; rfl
    obtain ⟨aL, aF, aR⟩ := h.lvk (k := m) (by omega) (by omega)
    have of1 := aR.1
    have ell := aF.1
    by_cases hin : 0 < m ∧ ¬ (0 ≤ i.toInt ∧ i.toInt < ((σ.FS m).length : Int))
    · have hu : σ.merge (nI m) i = (cUNK, σ) := by
        unfold St.merge
        rw [if_pos hl, e1, if_pos ⟨by omega, hin.2⟩]
      first | refine wp_aload_n (pc := 0) dX6_merge_0 rfl ?_ | refine wp_aload_nN (pc := 0) dX6_merge_0 rfl ?_
      refine wp_iload_n (pc := 1) dX6_merge_1 rfl ?_
      refine cv_LevelStore_146 (pc := 2) (s_levelAt hX l1) rfl dX6_merge_2 (by first | assumption | exact Fx.ok (by assumption) (by decide)) ⟨by decide, by decide, Nat.zero_le _, Nat.zero_le _⟩ (Nat.le_of_ble_eq_true rfl) (fun v h hp => ?_)
      obtain ⟨rfl, rfl⟩ := hp
      rw [e1]
      first | refine wp_astore_n (pc := 5) dX6_merge_5 (by decide) rfl ?_ | refine wp_astore_nN (pc := 5) dX6_merge_5 (by decide) rfl ?_
      first | refine wp_aload_n (pc := 6) dX6_merge_6 rfl ?_ | refine wp_aload_nN (pc := 6) dX6_merge_6 rfl ?_
      refine wp_iload_n (pc := 7) dX6_merge_7 rfl ?_
      refine wp_iconst (pc := 8) (v := 1) dX6_merge_8 (by decide) ?_
      refine wp_iadd (pc := 9) dX6_merge_9 ?_
      rw [nI_1]
      refine cv_LevelStore_146 (pc := 10) (s_levelAt hX l2) rfl dX6_merge_10 (by first | assumption | exact Fx.ok (by assumption) (by decide)) ⟨by decide, by decide, Nat.zero_le _, Nat.zero_le _⟩ (Nat.le_of_ble_eq_true rfl) (fun v h hp => ?_)
      obtain ⟨rfl, rfl⟩ := hp
      first | refine wp_astore (pc := 13) dX6_merge_13 (by decide) rfl ?_ | refine wp_astoreN (pc := 13) dX6_merge_13 (by decide) rfl ?_
      first | refine wp_aload_n (pc := 15) dX6_merge_15 rfl ?_ | refine wp_aload_nN (pc := 15) dX6_merge_15 rfl ?_
      refine wp_ifnull_r (pc := 16) dX6_merge_16 ?_
      first | refine wp_aload (pc := 19) dX6_merge_19 rfl ?_ | refine wp_aloadN (pc := 19) dX6_merge_19 rfl ?_
      refine wp_ifnull_r (pc := 21) dX6_merge_21 ?_
      refine wp_iload_n (pc := 24) dX6_merge_24 rfl ?_
      refine wp_if_le (pc := 25) (tgt := 39) dX6_merge_25 (by decide) (fun hc => ?_) (fun hc => ?_)
      · omega
      · skip
        first | refine wp_aload_n (pc := 28) dX6_merge_28 rfl ?_ | refine wp_aload_nN (pc := 28) dX6_merge_28 rfl ?_
        refine wp_iload_n (pc := 29) dX6_merge_29 rfl ?_
        refine cv_LevelStore_150 (pc := 30) (s_X1_at aR aL i) rfl dX6_merge_30 (by first | assumption | exact Fx.ok (by assumption) (by decide)) ⟨by decide, by decide, Nat.zero_le _, Nat.zero_le _⟩ (Nat.le_of_ble_eq_true rfl) (fun v h hp => ?_)
        obtain ⟨rfl, rfl⟩ := hp
        rw [show atV (P m) i = .null by unfold atV; rw [ell, if_neg hin.2]]
        refine wp_ifnonnull_n (pc := 33) dX6_merge_33 ?_
        refine wp_ldc (pc := 36) (v := -1000001) dX6_merge_36 cn_LevelStore_89 ?_
        refine wp_ret (pc := 38) dX6_merge_38 rfl (by first | trivial | exact Or.inl rfl | exact Or.inr rfl | assumption) ?_
        exact cP.id2 h hu
    · have hi2 : m ≠ 0 → 0 ≤ i.toInt ∧ i.toInt < (σ.FS m).length := fun q => Decidable.byContradiction fun z => hin ⟨by omega, z⟩
      by_cases hm0 : m = 0
      · skip
        first | refine wp_aload_n (pc := 0) dX6_merge_0 rfl ?_ | refine wp_aload_nN (pc := 0) dX6_merge_0 rfl ?_
        refine wp_iload_n (pc := 1) dX6_merge_1 rfl ?_
        refine cv_LevelStore_146 (pc := 2) (s_levelAt hX l1) rfl dX6_merge_2 (by first | assumption | exact Fx.ok (by assumption) (by decide)) ⟨by decide, by decide, Nat.zero_le _, Nat.zero_le _⟩ (Nat.le_of_ble_eq_true rfl) (fun v h hp => ?_)
        obtain ⟨rfl, rfl⟩ := hp
        rw [e1]
        first | refine wp_astore_n (pc := 5) dX6_merge_5 (by decide) rfl ?_ | refine wp_astore_nN (pc := 5) dX6_merge_5 (by decide) rfl ?_
        first | refine wp_aload_n (pc := 6) dX6_merge_6 rfl ?_ | refine wp_aload_nN (pc := 6) dX6_merge_6 rfl ?_
        refine wp_iload_n (pc := 7) dX6_merge_7 rfl ?_
        refine wp_iconst (pc := 8) (v := 1) dX6_merge_8 (by decide) ?_
        refine wp_iadd (pc := 9) dX6_merge_9 ?_
        rw [nI_1]
        refine cv_LevelStore_146 (pc := 10) (s_levelAt hX l2) rfl dX6_merge_10 (by first | assumption | exact Fx.ok (by assumption) (by decide)) ⟨by decide, by decide, Nat.zero_le _, Nat.zero_le _⟩ (Nat.le_of_ble_eq_true rfl) (fun v h hp => ?_)
        obtain ⟨rfl, rfl⟩ := hp
        rw [e2]
        first | refine wp_astore (pc := 13) dX6_merge_13 (by decide) rfl ?_ | refine wp_astoreN (pc := 13) dX6_merge_13 (by decide) rfl ?_
        first | refine wp_aload_n (pc := 15) dX6_merge_15 rfl ?_ | refine wp_aload_nN (pc := 15) dX6_merge_15 rfl ?_
        refine wp_ifnull_r (pc := 16) dX6_merge_16 ?_
        first | refine wp_aload (pc := 19) dX6_merge_19 rfl ?_ | refine wp_aloadN (pc := 19) dX6_merge_19 rfl ?_
        refine wp_ifnull_r (pc := 21) dX6_merge_21 ?_
        refine wp_iload_n (pc := 24) dX6_merge_24 rfl ?_
        refine wp_if_le (pc := 25) (tgt := 39) dX6_merge_25 (by decide) (fun hc => ?_) (fun hc => ?_)
        · skip
          exact s_merge_39 h hid hM hm i hi2 _ ⟨rfl, rfl, rfl, rfl, rfl, trivial⟩
        · omega
      · obtain ⟨h0, h1⟩ := hi2 hm0
        have hlt : i.toInt.toNat < (P m).length := by omega
        have hq : (P m)[i.toInt.toNat]? = some ((P m)[i.toInt.toNat]) := List.getElem?_eq_getElem hlt
        first | refine wp_aload_n (pc := 0) dX6_merge_0 rfl ?_ | refine wp_aload_nN (pc := 0) dX6_merge_0 rfl ?_
        refine wp_iload_n (pc := 1) dX6_merge_1 rfl ?_
        refine cv_LevelStore_146 (pc := 2) (s_levelAt hX l1) rfl dX6_merge_2 (by first | assumption | exact Fx.ok (by assumption) (by decide)) ⟨by decide, by decide, Nat.zero_le _, Nat.zero_le _⟩ (Nat.le_of_ble_eq_true rfl) (fun v h hp => ?_)
        obtain ⟨rfl, rfl⟩ := hp
        rw [e1]
        first | refine wp_astore_n (pc := 5) dX6_merge_5 (by decide) rfl ?_ | refine wp_astore_nN (pc := 5) dX6_merge_5 (by decide) rfl ?_
        first | refine wp_aload_n (pc := 6) dX6_merge_6 rfl ?_ | refine wp_aload_nN (pc := 6) dX6_merge_6 rfl ?_
        refine wp_iload_n (pc := 7) dX6_merge_7 rfl ?_
        refine wp_iconst (pc := 8) (v := 1) dX6_merge_8 (by decide) ?_
        refine wp_iadd (pc := 9) dX6_merge_9 ?_
        rw [nI_1]
        refine cv_LevelStore_146 (pc := 10) (s_levelAt hX l2) rfl dX6_merge_10 (by first | assumption | exact Fx.ok (by assumption) (by decide)) ⟨by decide, by decide, Nat.zero_le _, Nat.zero_le _⟩ (Nat.le_of_ble_eq_true rfl) (fun v h hp => ?_)
        obtain ⟨rfl, rfl⟩ := hp
        rw [e2]
        first | refine wp_astore (pc := 13) dX6_merge_13 (by decide) rfl ?_ | refine wp_astoreN (pc := 13) dX6_merge_13 (by decide) rfl ?_
        first | refine wp_aload_n (pc := 15) dX6_merge_15 rfl ?_ | refine wp_aload_nN (pc := 15) dX6_merge_15 rfl ?_
        refine wp_ifnull_r (pc := 16) dX6_merge_16 ?_
        first | refine wp_aload (pc := 19) dX6_merge_19 rfl ?_ | refine wp_aloadN (pc := 19) dX6_merge_19 rfl ?_
        refine wp_ifnull_r (pc := 21) dX6_merge_21 ?_
        refine wp_iload_n (pc := 24) dX6_merge_24 rfl ?_
        refine wp_if_le (pc := 25) (tgt := 39) dX6_merge_25 (by decide) (fun hc => ?_) (fun hc => ?_)
        · omega
        · skip
          first | refine wp_aload_n (pc := 28) dX6_merge_28 rfl ?_ | refine wp_aload_nN (pc := 28) dX6_merge_28 rfl ?_
          refine wp_iload_n (pc := 29) dX6_merge_29 rfl ?_
          refine cv_LevelStore_150 (pc := 30) (s_X1_at aR aL i) rfl dX6_merge_30 (by first | assumption | exact Fx.ok (by assumption) (by decide)) ⟨by decide, by decide, Nat.zero_le _, Nat.zero_le _⟩ (Nat.le_of_ble_eq_true rfl) (fun v h hp => ?_)
          obtain ⟨rfl, rfl⟩ := hp
          rw [show atV (P m) i = .ref ((P m)[i.toInt.toNat]) by unfold atV; rw [if_pos ⟨h0, by omega⟩, List.getD_eq_getElem?_getD, hq]; rfl]
          refine wp_ifnonnull_r (pc := 33) (tgt := 39) dX6_merge_33 (by decide) ?_
          exact s_merge_39 h hid hM hm i hi2 _ ⟨rfl, rfl, rfl, rfl, rfl, trivial⟩
  · have hu : σ.merge l i = (cUNK, σ) := by
      unfold St.merge
      rw [if_neg hl]
    by_cases l1 : isLv l
    · have l2 : ¬ isLv (l + 1) := fun q => by
        have h1 := l1.1
        have h2 := l1.2
        have h3 : (l + 1).toInt = l.toInt + 1 := by rw [tI_add (by rw [tl_1]; omega) (by rw [tl_1]; omega), tl_1]
        have h4 := q.2
        omega
      first | refine wp_aload_n (pc := 0) dX6_merge_0 rfl ?_ | refine wp_aload_nN (pc := 0) dX6_merge_0 rfl ?_
      refine wp_iload_n (pc := 1) dX6_merge_1 rfl ?_
      refine cv_LevelStore_146 (pc := 2) (s_levelAt hX l1) rfl dX6_merge_2 (by first | assumption | exact Fx.ok (by assumption) (by decide)) ⟨by decide, by decide, Nat.zero_le _, Nat.zero_le _⟩ (Nat.le_of_ble_eq_true rfl) (fun v h hp => ?_)
      obtain ⟨rfl, rfl⟩ := hp
      first | refine wp_astore_n (pc := 5) dX6_merge_5 (by decide) rfl ?_ | refine wp_astore_nN (pc := 5) dX6_merge_5 (by decide) rfl ?_
      first | refine wp_aload_n (pc := 6) dX6_merge_6 rfl ?_ | refine wp_aload_nN (pc := 6) dX6_merge_6 rfl ?_
      refine wp_iload_n (pc := 7) dX6_merge_7 rfl ?_
      refine wp_iconst (pc := 8) (v := 1) dX6_merge_8 (by decide) ?_
      refine wp_iadd (pc := 9) dX6_merge_9 ?_
      refine cv_LevelStore_146 (pc := 10) (s_levelAtN hX l2) rfl dX6_merge_10 (by first | assumption | exact Fx.ok (by assumption) (by decide)) ⟨by decide, by decide, Nat.zero_le _, Nat.zero_le _⟩ (Nat.le_of_ble_eq_true rfl) (fun v h hp => ?_)
      obtain ⟨rfl, rfl⟩ := hp
      refine wp_astoreN (pc := 13) dX6_merge_13 (by decide) rfl ?_
      first | refine wp_aload_n (pc := 15) dX6_merge_15 rfl ?_ | refine wp_aload_nN (pc := 15) dX6_merge_15 rfl ?_
      refine wp_ifnull_r (pc := 16) dX6_merge_16 ?_
      refine wp_aloadN (pc := 19) dX6_merge_19 rfl ?_
      refine wp_ifnull_n (pc := 21) (tgt := 36) dX6_merge_21 (by decide) ?_
      refine wp_ldc (pc := 36) (v := -1000001) dX6_merge_36 cn_LevelStore_89 ?_
      refine wp_ret (pc := 38) dX6_merge_38 rfl (by first | trivial | exact Or.inl rfl | exact Or.inr rfl | assumption) ?_
      exact cP.id2 h hu
    · by_cases l2 : isLv (l + 1)
      · skip
        first | refine wp_aload_n (pc := 0) dX6_merge_0 rfl ?_ | refine wp_aload_nN (pc := 0) dX6_merge_0 rfl ?_
        refine wp_iload_n (pc := 1) dX6_merge_1 rfl ?_
        refine cv_LevelStore_146 (pc := 2) (s_levelAtN hX l1) rfl dX6_merge_2 (by first | assumption | exact Fx.ok (by assumption) (by decide)) ⟨by decide, by decide, Nat.zero_le _, Nat.zero_le _⟩ (Nat.le_of_ble_eq_true rfl) (fun v h hp => ?_)
        obtain ⟨rfl, rfl⟩ := hp
        refine wp_astore_nN (pc := 5) dX6_merge_5 (by decide) rfl ?_
        first | refine wp_aload_n (pc := 6) dX6_merge_6 rfl ?_ | refine wp_aload_nN (pc := 6) dX6_merge_6 rfl ?_
        refine wp_iload_n (pc := 7) dX6_merge_7 rfl ?_
        refine wp_iconst (pc := 8) (v := 1) dX6_merge_8 (by decide) ?_
        refine wp_iadd (pc := 9) dX6_merge_9 ?_
        refine cv_LevelStore_146 (pc := 10) (s_levelAt hX l2) rfl dX6_merge_10 (by first | assumption | exact Fx.ok (by assumption) (by decide)) ⟨by decide, by decide, Nat.zero_le _, Nat.zero_le _⟩ (Nat.le_of_ble_eq_true rfl) (fun v h hp => ?_)
        obtain ⟨rfl, rfl⟩ := hp
        first | refine wp_astore (pc := 13) dX6_merge_13 (by decide) rfl ?_ | refine wp_astoreN (pc := 13) dX6_merge_13 (by decide) rfl ?_
        refine wp_aload_nN (pc := 15) dX6_merge_15 rfl ?_
        refine wp_ifnull_n (pc := 16) (tgt := 36) dX6_merge_16 (by decide) ?_
        refine wp_ldc (pc := 36) (v := -1000001) dX6_merge_36 cn_LevelStore_89 ?_
        refine wp_ret (pc := 38) dX6_merge_38 rfl (by first | trivial | exact Or.inl rfl | exact Or.inr rfl | assumption) ?_
        exact cP.id2 h hu
      · skip
        first | refine wp_aload_n (pc := 0) dX6_merge_0 rfl ?_ | refine wp_aload_nN (pc := 0) dX6_merge_0 rfl ?_
        refine wp_iload_n (pc := 1) dX6_merge_1 rfl ?_
        refine cv_LevelStore_146 (pc := 2) (s_levelAtN hX l1) rfl dX6_merge_2 (by first | assumption | exact Fx.ok (by assumption) (by decide)) ⟨by decide, by decide, Nat.zero_le _, Nat.zero_le _⟩ (Nat.le_of_ble_eq_true rfl) (fun v h hp => ?_)
        obtain ⟨rfl, rfl⟩ := hp
        refine wp_astore_nN (pc := 5) dX6_merge_5 (by decide) rfl ?_
        first | refine wp_aload_n (pc := 6) dX6_merge_6 rfl ?_ | refine wp_aload_nN (pc := 6) dX6_merge_6 rfl ?_
        refine wp_iload_n (pc := 7) dX6_merge_7 rfl ?_
        refine wp_iconst (pc := 8) (v := 1) dX6_merge_8 (by decide) ?_
        refine wp_iadd (pc := 9) dX6_merge_9 ?_
        refine cv_LevelStore_146 (pc := 10) (s_levelAtN hX l2) rfl dX6_merge_10 (by first | assumption | exact Fx.ok (by assumption) (by decide)) ⟨by decide, by decide, Nat.zero_le _, Nat.zero_le _⟩ (Nat.le_of_ble_eq_true rfl) (fun v h hp => ?_)
        obtain ⟨rfl, rfl⟩ := hp
        refine wp_astoreN (pc := 13) dX6_merge_13 (by decide) rfl ?_
        refine wp_aload_nN (pc := 15) dX6_merge_15 rfl ?_
        refine wp_ifnull_n (pc := 16) (tgt := 36) dX6_merge_16 (by decide) ?_
        refine wp_ldc (pc := 36) (v := -1000001) dX6_merge_36 cn_LevelStore_89 ?_
        refine wp_ret (pc := 38) dX6_merge_38 rfl (by first | trivial | exact Or.inl rfl | exact Or.inr rfl | assumption) ?_
        exact cP.id2 h hu
end MG
