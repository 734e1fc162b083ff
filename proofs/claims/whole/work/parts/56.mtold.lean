/-! THE REFERENCE: files, high, file, entry -/
section M6
variable {σ : St} {n : Nat} {S : ab_SH} {R : ab_RR} {I : ab_II} {SL : Nat → List Nat}
theorem RM.ll (h : RM σ I SL) {J : ab_II} (hf : fM I J [53] [18]) : RM σ J SL := h.keep hf (fun j q => by simp at q; omega) (fun k q => by simp at q; omega)
theorem m_least (hX : Fx n S R) {f : Nat} (hf : f < 330) {F : FA} (hs : slOK I f F) (hne : F.es ≠ []) : wp 0 0 0 0 MX7_least 0 [(0, .ref 39), (1, .int (nI f))] [] (n, S, R, I) (fun v h => h = (n, S, R, I) ∧ v = some (.int (lk F.es))) := by
  have z49 : (S 49).2 = 9900 := hX.len (by decide)
  have e1 : (nI (30 * f)).toInt = ((30 * f : Nat) : Int) := tI_n (by omega)
  have w1 := (hs.2.2.2.2.2.at (j := 0) (List.length_pos_iff.mpr hne)).1
  rw [Nat.add_zero] at w1
  first | refine wp_aload_n (pc := 0) dX7_least_0 rfl ?_ | refine wp_aload_nN (pc := 0) dX7_least_0 rfl ?_
  refine wp_getR (pc := 1) dX7_least_1 fl_LevelStoreModel_37 (by first | assumption | exact Fx.ok (by assumption) (by decide)) rfl (by first | assumption | exact Fx.ref (by assumption) rfl) ?_
  refine wp_bipush (pc := 4) (v := 30) dX7_least_4 (by decide) ?_
  refine wp_iload_n (pc := 6) dX7_least_6 rfl ?_
  refine wp_imul (pc := 7) dX7_least_7 ?_
  rw [i30]
  refine wp_iaload (pc := 8) dX7_least_8 (by first | assumption | exact Fx.ok (by assumption) (by decide)) (in_I (by omega) (by rw [z49]; omega)) ?_
  refine wp_ret (pc := 9) dX7_least_9 rfl (by first | trivial | exact Or.inl rfl | exact Or.inr rfl | assumption) ?_
  exact ⟨rfl, by rw [nI_c (by omega), w1, lk_lfn hne]⟩
theorem m_greatest (hX : Fx n S R) {f : Nat} (hf : f < 330) {F : FA} (hs : slOK I f F) (hne : F.es ≠ []) : wp 0 0 0 0 MX7_greatest 0 [(0, .ref 39), (1, .int (nI f))] [] (n, S, R, I) (fun v h => h = (n, S, R, I) ∧ v = some (.int (gk F.es))) := by
  have z48 : (S 48).2 = 330 := hX.len (by decide)
  have z49 : (S 49).2 = 9900 := hX.len (by decide)
  have hp := List.length_pos_iff.mpr hne
  have hle := hs.2.2.2.2.1
  have ef : (nI f).toInt = f := tI_n (by omega)
  have e1 : nI (30 * f) + nI F.es.length - 1 = nI (30 * f + (F.es.length - 1)) := by
    rw [nI_add, show 30 * f + (F.es.length - 1) = 30 * f + F.es.length - 1 by omega]
    exact pk_sub (b := 1) (by omega)
  have e2 : (nI (30 * f + (F.es.length - 1))).toInt = ((30 * f + (F.es.length - 1) : Nat) : Int) := tI_n (by omega)
  have w1 := (hs.2.2.2.2.2.at (j := F.es.length - 1) (by omega)).1
  first | refine wp_aload_n (pc := 0) dX7_greatest_0 rfl ?_ | refine wp_aload_nN (pc := 0) dX7_greatest_0 rfl ?_
  refine wp_getR (pc := 1) dX7_greatest_1 fl_LevelStoreModel_37 (by first | assumption | exact Fx.ok (by assumption) (by decide)) rfl (by first | assumption | exact Fx.ref (by assumption) rfl) ?_
  refine wp_bipush (pc := 4) (v := 30) dX7_greatest_4 (by decide) ?_
  refine wp_iload_n (pc := 6) dX7_greatest_6 rfl ?_
  refine wp_imul (pc := 7) dX7_greatest_7 ?_
  rw [i30]
  first | refine wp_aload_n (pc := 8) dX7_greatest_8 rfl ?_ | refine wp_aload_nN (pc := 8) dX7_greatest_8 rfl ?_
  refine wp_getR (pc := 9) dX7_greatest_9 fl_LevelStoreModel_34 (by first | assumption | exact Fx.ok (by assumption) (by decide)) rfl (by first | assumption | exact Fx.ref (by assumption) rfl) ?_
  refine wp_iload_n (pc := 12) dX7_greatest_12 rfl ?_
  refine wp_iaload (pc := 13) dX7_greatest_13 (by first | assumption | exact Fx.ok (by assumption) (by decide)) (in_I (by omega) (by rw [z48]; omega)) ?_
  rw [nI_c (by omega), hs.2.2.2.1]
  refine wp_iadd (pc := 14) dX7_greatest_14 ?_
  refine wp_iconst (pc := 15) (v := 1) dX7_greatest_15 (by decide) ?_
  refine wp_isub (pc := 16) dX7_greatest_16 ?_
  rw [e1]
  refine wp_iaload (pc := 17) dX7_greatest_17 (by first | assumption | exact Fx.ok (by assumption) (by decide)) (in_I (by omega) (by rw [z49]; omega)) ?_
  refine wp_ret (pc := 18) dX7_greatest_18 rfl (by first | trivial | exact Or.inl rfl | exact Or.inr rfl | assumption) ?_
  exact ⟨rfl, by rw [nI_c (by omega), w1, gk_lfn hne]⟩
theorem isLv_nI {l : Int32} (h : 0 ≤ l.toInt ∧ l.toInt ≤ 3) : ∃ k : Nat, k < 4 ∧ l = nI k ∧ l.toInt.toNat = k ∧ isLv l := ⟨l.toInt.toNat, by omega, tI_N (by omega), rfl, ⟨h.1, by omega⟩⟩
theorem m_files (hX : Fx n S R) (h : RM σ I SL) (hs : ∀ k, k < 4 → lsrt σ k) (l : Int32) : wp 1 25 0 0 MX7_files 0 [(0, .ref 39), (1, .int l)] [] (n, S, R, I) (mP I n S R (σ.files l)) := by
  by_cases hb : 0 ≤ l.toInt ∧ l.toInt ≤ 3
  · obtain ⟨k, hk, rfl, ek, hlv⟩ := isLv_nI hb
    first | refine wp_aload_n (pc := 0) dX7_files_0 rfl ?_ | refine wp_aload_nN (pc := 0) dX7_files_0 rfl ?_
    refine wp_iconst (pc := 1) (v := 0) dX7_files_1 (by decide) ?_
    refine wp_putI (pc := 2) dX7_files_2 fl_LevelStoreModel_89 (by first | assumption | exact Fx.ok (by assumption) (by decide)) rfl rfl (Or.inl rfl) ?_
    have h1 := h.z
    have hk1 := kC.z (I := I)
    generalize ab_u2 I 39 0 0 = J at h1 hk1 ⊢
    refine wp_iload_n (pc := 5) dX7_files_5 rfl ?_
    refine wp_i2l (pc := 6) dX7_files_6 ?_
    refine wp_lconst (pc := 7) (v := 0) dX7_files_7 (by decide) ?_
    refine wp_ldc2 (pc := 8) (v := 3) dX7_files_8 cl2_LevelStoreModel_124 ?_
    refine cv_LevelStoreModel_103 (pc := 11) (s_inI (nI k) l64_0 l64_3) rfl dX7_files_11 ⟨by decide, by decide, Nat.zero_le _, Nat.zero_le _⟩ (Nat.le_of_ble_eq_true rfl) (fun v h hp => ?_)
    obtain ⟨rfl, rfl⟩ := hp
    refine wp_if_ne (pc := 14) (tgt := 20) dX7_files_14 (by decide) (fun hc => ?_) (fun hc => ?_)
    · skip
      first | refine wp_aload_n (pc := 20) dX7_files_20 rfl ?_ | refine wp_aload_nN (pc := 20) dX7_files_20 rfl ?_
      refine wp_iload_n (pc := 21) dX7_files_21 rfl ?_
      refine cv_LevelStoreModel_173 (pc := 22) (m_listLevel hX h1.sl hk (hs k hk)) rfl dX7_files_22 (by first | assumption | exact Fx.ok (by assumption) (by decide)) ⟨by decide, by decide, Nat.zero_le _, Nat.zero_le _⟩ (Nat.le_of_ble_eq_true rfl) (fun v h hp => ?_)
      obtain ⟨rfl, J2, rfl, hf2, hl2⟩ := hp
      first | refine wp_aload_n (pc := 25) dX7_files_25 rfl ?_ | refine wp_aload_nN (pc := 25) dX7_files_25 rfl ?_
      refine wp_getI (pc := 26) dX7_files_26 fl_LevelStoreModel_137 (by first | assumption | exact Fx.ok (by assumption) (by decide)) rfl ?_
      refine wp_ret (pc := 29) dX7_files_29 rfl (by first | trivial | exact Or.inl rfl | exact Or.inr rfl | assumption) ?_
      rw [hl2.1]
      exact mP.id (h1.ll hf2) (by unfold St.files; rw [if_pos hlv, ek, (h1.sl.1 k (Or.inl hk)).1]) (hk1.tr (hf2.kC (by simp)))
    · exact absurd hb (ite01 hc)
  · skip
    first | refine wp_aload_n (pc := 0) dX7_files_0 rfl ?_ | refine wp_aload_nN (pc := 0) dX7_files_0 rfl ?_
    refine wp_iconst (pc := 1) (v := 0) dX7_files_1 (by decide) ?_
    refine wp_putI (pc := 2) dX7_files_2 fl_LevelStoreModel_89 (by first | assumption | exact Fx.ok (by assumption) (by decide)) rfl rfl (Or.inl rfl) ?_
    have h1 := h.z
    have hk1 := kC.z (I := I)
    generalize ab_u2 I 39 0 0 = J at h1 hk1 ⊢
    refine wp_iload_n (pc := 5) dX7_files_5 rfl ?_
    refine wp_i2l (pc := 6) dX7_files_6 ?_
    refine wp_lconst (pc := 7) (v := 0) dX7_files_7 (by decide) ?_
    refine wp_ldc2 (pc := 8) (v := 3) dX7_files_8 cl2_LevelStoreModel_124 ?_
    refine cv_LevelStoreModel_103 (pc := 11) (s_inI l l64_0 l64_3) rfl dX7_files_11 ⟨by decide, by decide, Nat.zero_le _, Nat.zero_le _⟩ (Nat.le_of_ble_eq_true rfl) (fun v h hp => ?_)
    obtain ⟨rfl, rfl⟩ := hp
    refine wp_if_ne (pc := 14) (tgt := 20) dX7_files_14 (by decide) (fun hc => ?_) (fun hc => ?_)
    · exact absurd (ite01n hc) hb
    · skip
      refine wp_ldc (pc := 17) (v := -1000001) dX7_files_17 cn_LevelStoreModel_135 ?_
      refine wp_ret (pc := 19) dX7_files_19 rfl (by first | trivial | exact Or.inl rfl | exact Or.inr rfl | assumption) ?_
      exact mP.id h1 (by unfold St.files; rw [if_neg (fun q => hb ⟨q.1, by have := q.2; omega⟩)]) hk1
theorem m_high_loop (hX : Fx n S R) (hs : ∀ k, k < 4 → lsrt σ k) {I0 : ab_II} (post : ab_Po) (hpost : ∀ (x : Int32) (J : ab_II), σ.high = (x, σ) → RM σ J SL → kC I0 J → post (some (.int x)) (n, S, R, J)) :
    ∀ (d t : Nat) (y : Int32) (J : ab_II) (L : List (Nat × Value)), 3 = t + d → y = nI t → RM σ J SL → kC I0 J → (0 < t → ¬ 3 < (σ.FS 0).length) → (1 < t → ¬ 3 < (σ.FS 1).length) → (2 < t → ¬ 6 < (σ.FS 2).length) → ab_sub L [(0, .ref 39), (1, .int y)] → wp 1 23 0 0 MX7_high 7 L [] (n, S, R, J) post := by
  intro d
  induction d with
  | zero =>
    intro t y J L ht hy hR hk g0 g1 g2 hL0
    refine wp_loc hL0 ?_
    have ey : y.toInt = t := by rw [hy, tI_n (by omega)]
    refine wp_iload_n (pc := 7) dX7_high_7 rfl ?_
    refine wp_iconst (pc := 8) (v := 3) dX7_high_8 (by decide) ?_
    refine wp_icmp_ge (pc := 9) (tgt := 43) dX7_high_9 (by decide) (fun hc => ?_) (fun hc => ?_)
    · skip
      refine wp_ldc (pc := 43) (v := -1000009) dX7_high_43 cn_LevelStoreModel_116 ?_
      refine wp_ret (pc := 45) dX7_high_45 rfl (by first | trivial | exact Or.inl rfl | exact Or.inr rfl | assumption) ?_
      exact hpost _ J (by unfold St.high; rw [if_neg (g0 (by omega)), if_neg (g1 (by omega)), if_neg (g2 (by omega))]) hR hk
    · rw [tl_3] at hc; omega
  | succ d ih =>
    intro t y J L ht hy hR hk g0 g1 g2 hL0
    refine wp_loc hL0 ?_
    subst hy
    have ey : (nI t).toInt = t := tI_n (by omega)
    have hlen := (hR.sl.1 t (Or.inl (by omega))).1
    have h330 : (SL t).length ≤ 330 := by
      have := List.Nodup.length_le_of_subset (l₂ := List.range 330) (hR.sl.1 t (Or.inl (by omega))).2.1 (fun f q => List.mem_range.mpr (hR.sl.mem (Or.inl (by omega)) q).1)
      rw [List.length_range] at this
      exact this
    have nxt : ∀ (J2 : ab_II) (b : Nat) (bb : Int32), RM σ J2 SL → kC I0 J2 → J2 39 18 = nI (SL t).length → bb.toInt = b → b = (if t = 2 then 6 else 3) → wp 1 23 0 0 MX7_high 32 [(0, .ref 39), (1, .int (nI t))] [.int bb, .int (J2 39 18)] (n, S, R, J2) post := by
      intro J2 b bb hR2 hk2 e18 ebb hb
      have el : (J2 39 18).toInt = (σ.FS t).length := by rw [e18, tI_n (by omega), hlen]
      refine wp_icmp_le (pc := 32) (tgt := 37) dX7_high_32 (by decide) (fun hc => ?_) (fun hc => ?_)
      · rw [el, ebb] at hc
        refine wp_iinc (pc := 37) dX7_high_37 rfl (by decide) rfl ?_
        refine wp_goto (pc := 40) (tgt := 7) dX7_high_40 (by decide) ?_
        refine ih (t + 1) _ J2 _ (by omega) (nI_i1 t) hR2 hk2 (fun q => ?_) (fun q => ?_) (fun q => ?_) ⟨rfl, rfl, trivial⟩
        · by_cases e : t = 0
          · subst e; simp at hb; omega
          · exact g0 (by omega)
        · by_cases e : t = 1
          · subst e; simp at hb; omega
          · exact g1 (by omega)
        · have e : t = 2 := by omega
          subst e; simp at hb; omega
      · rw [el, ebb] at hc
        refine wp_iload_n (pc := 35) dX7_high_35 rfl ?_
        refine wp_ret (pc := 36) dX7_high_36 rfl (by first | trivial | exact Or.inl rfl | exact Or.inr rfl | assumption) ?_
        refine hpost _ J2 ?_ hR2 hk2
        unfold St.high
        rcases (show t = 0 ∨ t = 1 ∨ t = 2 by omega) with e | e | e
        · subst e; rw [if_pos (by simp at hb; omega)]; rfl
        · subst e; rw [if_neg (g0 (by omega)), if_pos (by simp at hb; omega)]; rfl
        · subst e; rw [if_neg (g0 (by omega)), if_neg (g1 (by omega)), if_pos (by simp at hb; omega)]; rfl
    refine wp_iload_n (pc := 7) dX7_high_7 rfl ?_
    refine wp_iconst (pc := 8) (v := 3) dX7_high_8 (by decide) ?_
    refine wp_icmp_ge (pc := 9) (tgt := 43) dX7_high_9 (by decide) (fun hc => ?_) (fun hc => ?_)
    · rw [tl_3] at hc; omega
    · skip
      first | refine wp_aload_n (pc := 12) dX7_high_12 rfl ?_ | refine wp_aload_nN (pc := 12) dX7_high_12 rfl ?_
      refine wp_iload_n (pc := 13) dX7_high_13 rfl ?_
      refine cv_LevelStoreModel_173 (pc := 14) (m_listLevel hX hR.sl (by omega) (hs t (by omega))) rfl dX7_high_14 (by first | assumption | exact Fx.ok (by assumption) (by decide)) ⟨by decide, by decide, Nat.zero_le _, Nat.zero_le _⟩ (Nat.le_of_ble_eq_true rfl) (fun v h hp => ?_)
      obtain ⟨rfl, J2, rfl, hf2, hl2⟩ := hp
      first | refine wp_aload_n (pc := 17) dX7_high_17 rfl ?_ | refine wp_aload_nN (pc := 17) dX7_high_17 rfl ?_
      refine wp_getI (pc := 18) dX7_high_18 fl_LevelStoreModel_137 (by first | assumption | exact Fx.ok (by assumption) (by decide)) rfl ?_
      refine wp_iload_n (pc := 21) dX7_high_21 rfl ?_
      refine wp_iconst (pc := 22) (v := 2) dX7_high_22 (by decide) ?_
      refine wp_icmp_ne (pc := 23) (tgt := 31) dX7_high_23 (by decide) (fun hc => ?_) (fun hc => ?_)
      · rw [tl_2, ey] at hc
        refine wp_iconst (pc := 31) (v := 3) dX7_high_31 (by decide) ?_
        first
        | exact wp_loc (L' := [(0, .ref 39), (1, .int (nI t))]) ⟨rfl, rfl, trivial⟩ (nxt J2 6 _ (hR.ll hf2) (hk.tr (hf2.kC (by simp))) hl2.1 tl_6 (by rw [if_pos (by omega)]))
        | exact wp_loc (L' := [(0, .ref 39), (1, .int (nI t))]) ⟨rfl, rfl, trivial⟩ (nxt J2 3 _ (hR.ll hf2) (hk.tr (hf2.kC (by simp))) hl2.1 tl_3 (by rw [if_neg (by omega)]))
      · rw [tl_2, ey] at hc
        refine wp_bipush (pc := 26) (v := 6) dX7_high_26 (by decide) ?_
        refine wp_goto (pc := 28) (tgt := 32) dX7_high_28 (by decide) ?_
        first
        | exact wp_loc (L' := [(0, .ref 39), (1, .int (nI t))]) ⟨rfl, rfl, trivial⟩ (nxt J2 6 _ (hR.ll hf2) (hk.tr (hf2.kC (by simp))) hl2.1 tl_6 (by rw [if_pos (by omega)]))
        | exact wp_loc (L' := [(0, .ref 39), (1, .int (nI t))]) ⟨rfl, rfl, trivial⟩ (nxt J2 3 _ (hR.ll hf2) (hk.tr (hf2.kC (by simp))) hl2.1 tl_3 (by rw [if_neg (by omega)]))
theorem m_high (hX : Fx n S R) (h : RM σ I SL) (hs : ∀ k, k < 4 → lsrt σ k) : wp 1 23 0 0 MX7_high 0 [(0, .ref 39)] [] (n, S, R, I) (mP I n S R σ.high) := by
  first | refine wp_aload_n (pc := 0) dX7_high_0 rfl ?_ | refine wp_aload_nN (pc := 0) dX7_high_0 rfl ?_
  refine wp_iconst (pc := 1) (v := 0) dX7_high_1 (by decide) ?_
  refine wp_putI (pc := 2) dX7_high_2 fl_LevelStoreModel_89 (by first | assumption | exact Fx.ok (by assumption) (by decide)) rfl rfl (Or.inl rfl) ?_
  refine wp_iconst (pc := 5) (v := 0) dX7_high_5 (by decide) ?_
  refine wp_istore_n (pc := 6) dX7_high_6 (by decide) rfl ?_
  exact m_high_loop hX hs (I0 := I) _ (fun x J e hR hk => mP.id hR e hk) 3 0 _ _ _ rfl rfl h.z kC.z (fun q => by omega) (fun q => by omega) (fun q => by omega) ⟨rfl, rfl, trivial⟩
/-- the slot of a file -/
theorem m_slot (hX : Fx n S R) (h : RM σ I SL) (hs : ∀ k, k < 4 → lsrt σ k) (l i : Int32) : wp 1 25 0 0 MX7_slot 0 [(0, .ref 39), (1, .int l), (2, .int i)] [] (n, S, R, I) (fun v hh => ∃ J, hh = (n, S, R, J) ∧ fM I J [53] [18] ∧ ((v = some (.int (-1)) ∧ σ.fileO l i = none) ∨ ∃ (f : Nat) (F : FA), v = some (.int (nI f)) ∧ f < 330 ∧ σ.fileO l i = some F ∧ slOK J f F ∧ F.es ≠ [])) := by
  have z53 : (S 53).2 = 330 := hX.len (by decide)
  by_cases hb : 0 ≤ l.toInt ∧ l.toInt ≤ 3
  · obtain ⟨k, hk, rfl, ek, hlv⟩ := isLv_nI hb
    have hlen := (h.sl.1 k (Or.inl hk)).1
    have h330 : (SL k).length ≤ 330 := by
      have := List.Nodup.length_le_of_subset (l₂ := List.range 330) (h.sl.1 k (Or.inl hk)).2.1 (fun f q => List.mem_range.mpr (h.sl.mem (Or.inl hk) q).1)
      rw [List.length_range] at this
      exact this
    refine wp_iload_n (pc := 0) dX7_slot_0 rfl ?_
    refine wp_i2l (pc := 1) dX7_slot_1 ?_
    refine wp_lconst (pc := 2) (v := 0) dX7_slot_2 (by decide) ?_
    refine wp_ldc2 (pc := 3) (v := 3) dX7_slot_3 cl2_LevelStoreModel_124 ?_
    refine cv_LevelStoreModel_103 (pc := 6) (s_inI (nI k) l64_0 l64_3) rfl dX7_slot_6 ⟨by decide, by decide, Nat.zero_le _, Nat.zero_le _⟩ (Nat.le_of_ble_eq_true rfl) (fun v h hp => ?_)
    obtain ⟨rfl, rfl⟩ := hp
    refine wp_if_ne (pc := 9) (tgt := 14) dX7_slot_9 (by decide) (fun hc => ?_) (fun hc => ?_)
    · skip
      first | refine wp_aload_n (pc := 14) dX7_slot_14 rfl ?_ | refine wp_aload_nN (pc := 14) dX7_slot_14 rfl ?_
      refine wp_iload_n (pc := 15) dX7_slot_15 rfl ?_
      refine cv_LevelStoreModel_173 (pc := 16) (m_listLevel hX h.sl hk (hs k hk)) rfl dX7_slot_16 (by first | assumption | exact Fx.ok (by assumption) (by decide)) ⟨by decide, by decide, Nat.zero_le _, Nat.zero_le _⟩ (Nat.le_of_ble_eq_true rfl) (fun v h hp => ?_)
      obtain ⟨rfl, J, rfl, hf, hl⟩ := hp
      have e18 : (J 39 18).toInt = (SL k).length := by rw [hl.1, tI_n (by omega)]
      have e2 : (J 39 18 - 1).toInt64.toInt = ((SL k).length : Int) - 1 := by rw [Int32.toInt_toInt64, tI_sub (by rw [e18, tl_1]; omega) (by rw [e18, tl_1]; omega), e18, tl_1]
      refine wp_iload_n (pc := 19) dX7_slot_19 rfl ?_
      refine wp_i2l (pc := 20) dX7_slot_20 ?_
      refine wp_lconst (pc := 21) (v := 0) dX7_slot_21 (by decide) ?_
      first | refine wp_aload_n (pc := 22) dX7_slot_22 rfl ?_ | refine wp_aload_nN (pc := 22) dX7_slot_22 rfl ?_
      refine wp_getI (pc := 23) dX7_slot_23 fl_LevelStoreModel_137 (by first | assumption | exact Fx.ok (by assumption) (by decide)) rfl ?_
      refine wp_iconst (pc := 26) (v := 1) dX7_slot_26 (by decide) ?_
      refine wp_isub (pc := 27) dX7_slot_27 ?_
      refine wp_i2l (pc := 28) dX7_slot_28 ?_
      refine cv_LevelStoreModel_103 (pc := 29) (s_inI i l64_0 e2) rfl dX7_slot_29 ⟨by decide, by decide, Nat.zero_le _, Nat.zero_le _⟩ (Nat.le_of_ble_eq_true rfl) (fun v h hp => ?_)
      obtain ⟨rfl, rfl⟩ := hp
      refine wp_if_eq (pc := 32) (tgt := 44) dX7_slot_32 (by decide) (fun hc => ?_) (fun hc => ?_)
      · have hn := ite01 hc
        refine wp_iconst (pc := 44) (v := -1) dX7_slot_44 (by decide) ?_
        refine wp_ret (pc := 45) dX7_slot_45 rfl (by first | trivial | exact Or.inl rfl | exact Or.inr rfl | assumption) ?_
        first
        | exact ⟨J, rfl, hf, Or.inr ⟨f, F, rfl, s1, by unfold St.fileO; rw [if_pos ⟨hlv, hy.1⟩, ek]; exact hF, s3.keep (fun j q1 q2 => hf.1 j (by simp; omega) (by omega)), (hs k hk).1 F (List.mem_of_getElem? hF)⟩⟩
        | refine ⟨J, rfl, hf, Or.inl ⟨rfl, ?_⟩⟩
          unfold St.fileO
          by_cases q : 0 ≤ i.toInt
          · rw [if_pos ⟨hlv, q⟩, ek]; exact List.getElem?_eq_none (by omega)
          · rw [if_neg (fun z => q z.2)]
      · have hy := ite01n hc
        obtain ⟨f, hfi⟩ : ∃ f, (SL k)[i.toInt.toNat]? = some f := ⟨_, List.getElem?_eq_getElem (by omega)⟩
        obtain ⟨F, hF⟩ : ∃ F, (σ.FS k)[i.toInt.toNat]? = some F := ⟨_, List.getElem?_eq_getElem (by omega)⟩
        obtain ⟨s1, s2, s3⟩ := (h.sl.1 k (Or.inl hk)).2.2 _ f F hfi hF
        first | refine wp_aload_n (pc := 35) dX7_slot_35 rfl ?_ | refine wp_aload_nN (pc := 35) dX7_slot_35 rfl ?_
        refine wp_getR (pc := 36) dX7_slot_36 fl_LevelStoreModel_49 (by first | assumption | exact Fx.ok (by assumption) (by decide)) rfl (by first | assumption | exact Fx.ref (by assumption) rfl) ?_
        refine wp_iload_n (pc := 39) dX7_slot_39 rfl ?_
        refine wp_iaload (pc := 40) dX7_slot_40 (by first | assumption | exact Fx.ok (by assumption) (by decide)) (in_I (by omega) (by rw [z53]; omega)) ?_
        rw [tI_c, hl.2 _ f hfi]
        refine wp_goto (pc := 41) (tgt := 45) dX7_slot_41 (by decide) ?_
        refine wp_ret (pc := 45) dX7_slot_45 rfl (by first | trivial | exact Or.inl rfl | exact Or.inr rfl | assumption) ?_
        first
        | exact ⟨J, rfl, hf, Or.inr ⟨f, F, rfl, s1, by unfold St.fileO; rw [if_pos ⟨hlv, hy.1⟩, ek]; exact hF, s3.keep (fun j q1 q2 => hf.1 j (by simp; omega) (by omega)), (hs k hk).1 F (List.mem_of_getElem? hF)⟩⟩
        | refine ⟨J, rfl, hf, Or.inl ⟨rfl, ?_⟩⟩
          unfold St.fileO
          by_cases q : 0 ≤ i.toInt
          · rw [if_pos ⟨hlv, q⟩, ek]; exact List.getElem?_eq_none (by omega)
          · rw [if_neg (fun z => q z.2)]
    · exact absurd hb (ite01 hc)
  · skip
    refine wp_iload_n (pc := 0) dX7_slot_0 rfl ?_
    refine wp_i2l (pc := 1) dX7_slot_1 ?_
    refine wp_lconst (pc := 2) (v := 0) dX7_slot_2 (by decide) ?_
    refine wp_ldc2 (pc := 3) (v := 3) dX7_slot_3 cl2_LevelStoreModel_124 ?_
    refine cv_LevelStoreModel_103 (pc := 6) (s_inI l l64_0 l64_3) rfl dX7_slot_6 ⟨by decide, by decide, Nat.zero_le _, Nat.zero_le _⟩ (Nat.le_of_ble_eq_true rfl) (fun v h hp => ?_)
    obtain ⟨rfl, rfl⟩ := hp
    refine wp_if_ne (pc := 9) (tgt := 14) dX7_slot_9 (by decide) (fun hc => ?_) (fun hc => ?_)
    · exact absurd (ite01n hc) hb
    · skip
      refine wp_iconst (pc := 12) (v := -1) dX7_slot_12 (by decide) ?_
      refine wp_ret (pc := 13) dX7_slot_13 rfl (by first | trivial | exact Or.inl rfl | exact Or.inr rfl | assumption) ?_
      exact ⟨I, rfl, fM.rf, Or.inl ⟨rfl, by unfold St.fileO; rw [if_neg (fun q => hb ⟨q.1.1, by have := q.1.2; omega⟩)]⟩⟩
theorem m_file (hX : Fx n S R) (h : RM σ I SL) (hs : ∀ k, k < 4 → lsrt σ k) (l i w : Int32) : wp 2 47 0 0 MX7_file 0 [(0, .ref 39), (1, .int l), (2, .int i), (3, .int w)] [] (n, S, R, I) (mP I n S R (σ.file l i w)) := by
  have z45 : (S 45).2 = 330 := hX.len (by decide)
  have z46 : (S 46).2 = 330 := hX.len (by decide)
  have z47 : (S 47).2 = 330 := hX.len (by decide)
  have z48 : (S 48).2 = 330 := hX.len (by decide)
  have fin : ∀ (J : ab_II) (f : Nat) (F : FA), RM σ J SL → kC I J → f < 330 → σ.fileO l i = some F → slOK J f F → F.es ≠ [] → ∀ L, ab_sub L [(0, .ref 39), (1, .int l), (2, .int i), (3, .int w), (4, .int (nI f))] → wp 2 47 0 0 MX7_file 21 L [] (n, S, R, J) (mP I n S R (σ.file l i w)) := by
    intro J f F hR hk hf hO hsl hne L hL
    refine wp_loc hL ?_
    have hw : σ.file l i w = (fileA F w.toInt, σ) := by unfold St.file; rw [hO]
    have done : ∀ x : Int32, fileA F w.toInt = x → mP I n S R (σ.file l i w) (some (.int x)) (n, S, R, J) := fun x e => mP.id hR (by rw [hw, e]) hk
    have ef : (nI f).toInt = f := tI_n (by omega)
    have cf : (nI f).toNatClampNeg = f := nI_c (by omega)
    obtain ⟨s1, s2, s3, s4, s5, s6⟩ := id hsl
    refine wp_iload_n (pc := 21) dX7_file_21 rfl ?_
    refine wp_tableAt (pc := 22) (0) (off := 38) (tgt := 60) dX7_file_22 (by decide) (by decide) rfl (by decide) (fun hc => ?_) (fun hc => ?_)
    · skip
      first | refine wp_aload_n (pc := 60) dX7_file_60 rfl ?_ | refine wp_aload_nN (pc := 60) dX7_file_60 rfl ?_
      refine wp_getR (pc := 61) dX7_file_61 fl_LevelStoreModel_25 (by first | assumption | exact Fx.ok (by assumption) (by decide)) rfl (by first | assumption | exact Fx.ref (by assumption) rfl) ?_
      refine wp_iload (pc := 64) dX7_file_64 rfl ?_
      refine wp_iaload (pc := 66) dX7_file_66 (by first | assumption | exact Fx.ok (by assumption) (by decide)) (in_I (by omega) (by rw [z45]; omega)) ?_
      refine wp_ret (pc := 67) dX7_file_67 rfl (by first | trivial | exact Or.inl rfl | exact Or.inr rfl | assumption) ?_
      rw [cf, s1]; exact done _ (by unfold fileA; rw [if_pos (by omega)])
    refine wp_tableAt (pc := 22) (1) (off := 46) (tgt := 68) dX7_file_22 (by decide) (by decide) rfl (by decide) (fun hc => ?_) (fun hc => ?_)
    · skip
      first | refine wp_aload_n (pc := 68) dX7_file_68 rfl ?_ | refine wp_aload_nN (pc := 68) dX7_file_68 rfl ?_
      refine wp_getR (pc := 69) dX7_file_69 fl_LevelStoreModel_34 (by first | assumption | exact Fx.ok (by assumption) (by decide)) rfl (by first | assumption | exact Fx.ref (by assumption) rfl) ?_
      refine wp_iload (pc := 72) dX7_file_72 rfl ?_
      refine wp_iaload (pc := 74) dX7_file_74 (by first | assumption | exact Fx.ok (by assumption) (by decide)) (in_I (by omega) (by rw [z48]; omega)) ?_
      refine wp_ret (pc := 75) dX7_file_75 rfl (by first | trivial | exact Or.inl rfl | exact Or.inr rfl | assumption) ?_
      rw [cf, s4]; exact done _ (by unfold fileA; rw [if_neg (by omega), if_pos (by omega)])
    refine wp_tableAt (pc := 22) (2) (off := 54) (tgt := 76) dX7_file_22 (by decide) (by decide) rfl (by decide) (fun hc => ?_) (fun hc => ?_)
    · skip
      first | refine wp_aload_n (pc := 76) dX7_file_76 rfl ?_ | refine wp_aload_nN (pc := 76) dX7_file_76 rfl ?_
      refine wp_iload (pc := 77) dX7_file_77 rfl ?_
      refine cv_LevelStoreModel_176 (pc := 79) (m_least hX hf hsl hne) rfl dX7_file_79 (by first | assumption | exact Fx.ok (by assumption) (by decide)) ⟨by decide, by decide, Nat.zero_le _, Nat.zero_le _⟩ (Nat.le_of_ble_eq_true rfl) (fun v h hp => ?_)
      obtain ⟨rfl, rfl⟩ := hp
      refine wp_ret (pc := 82) dX7_file_82 rfl (by first | trivial | exact Or.inl rfl | exact Or.inr rfl | assumption) ?_
      exact done _ (by unfold fileA; rw [if_neg (by omega), if_neg (by omega), if_pos (by omega)])
    refine wp_tableAt (pc := 22) (3) (off := 61) (tgt := 83) dX7_file_22 (by decide) (by decide) rfl (by decide) (fun hc => ?_) (fun hc => ?_)
    · skip
      first | refine wp_aload_n (pc := 83) dX7_file_83 rfl ?_ | refine wp_aload_nN (pc := 83) dX7_file_83 rfl ?_
      refine wp_iload (pc := 84) dX7_file_84 rfl ?_
      refine cv_LevelStoreModel_180 (pc := 86) (m_greatest hX hf hsl hne) rfl dX7_file_86 (by first | assumption | exact Fx.ok (by assumption) (by decide)) ⟨by decide, by decide, Nat.zero_le _, Nat.zero_le _⟩ (Nat.le_of_ble_eq_true rfl) (fun v h hp => ?_)
      obtain ⟨rfl, rfl⟩ := hp
      refine wp_ret (pc := 89) dX7_file_89 rfl (by first | trivial | exact Or.inl rfl | exact Or.inr rfl | assumption) ?_
      exact done _ (by unfold fileA; rw [if_neg (by omega), if_neg (by omega), if_neg (by omega), if_pos (by omega)])
    refine wp_tableAt (pc := 22) (4) (off := 68) (tgt := 90) dX7_file_22 (by decide) (by decide) rfl (by decide) (fun hc => ?_) (fun hc => ?_)
    · skip
      first | refine wp_aload_n (pc := 90) dX7_file_90 rfl ?_ | refine wp_aload_nN (pc := 90) dX7_file_90 rfl ?_
      refine wp_getR (pc := 91) dX7_file_91 fl_LevelStoreModel_28 (by first | assumption | exact Fx.ok (by assumption) (by decide)) rfl (by first | assumption | exact Fx.ref (by assumption) rfl) ?_
      refine wp_iload (pc := 94) dX7_file_94 rfl ?_
      refine wp_iaload (pc := 96) dX7_file_96 (by first | assumption | exact Fx.ok (by assumption) (by decide)) (in_I (by omega) (by rw [z46]; omega)) ?_
      refine wp_ret (pc := 97) dX7_file_97 rfl (by first | trivial | exact Or.inl rfl | exact Or.inr rfl | assumption) ?_
      rw [cf, s2]; exact done _ (by unfold fileA; rw [if_neg (by omega), if_neg (by omega), if_neg (by omega), if_neg (by omega), if_pos (by omega)])
    refine wp_tableAt (pc := 22) (5) (off := 76) (tgt := 98) dX7_file_22 (by decide) (by decide) rfl (by decide) (fun hc => ?_) (fun hc => ?_)
    · skip
      first | refine wp_aload_n (pc := 98) dX7_file_98 rfl ?_ | refine wp_aload_nN (pc := 98) dX7_file_98 rfl ?_
      refine wp_getR (pc := 99) dX7_file_99 fl_LevelStoreModel_31 (by first | assumption | exact Fx.ok (by assumption) (by decide)) rfl (by first | assumption | exact Fx.ref (by assumption) rfl) ?_
      refine wp_iload (pc := 102) dX7_file_102 rfl ?_
      refine wp_iaload (pc := 104) dX7_file_104 (by first | assumption | exact Fx.ok (by assumption) (by decide)) (in_I (by omega) (by rw [z47]; omega)) ?_
      refine wp_ret (pc := 105) dX7_file_105 rfl (by first | trivial | exact Or.inl rfl | exact Or.inr rfl | assumption) ?_
      rw [cf, s3]; exact done _ (by unfold fileA; rw [if_neg (by omega), if_neg (by omega), if_neg (by omega), if_neg (by omega), if_neg (by omega), if_pos (by omega)])
    refine wp_tableOut (pc := 22) (tgt := 106) dX7_file_22 (by omega) (by decide) ?_
    refine wp_ldc (pc := 106) (v := -1000002) dX7_file_106 cn_LevelStoreModel_111 ?_
    refine wp_ret (pc := 108) dX7_file_108 rfl (by first | trivial | exact Or.inl rfl | exact Or.inr rfl | assumption) ?_
    exact done _ (by unfold fileA; rw [if_neg (by omega), if_neg (by omega), if_neg (by omega), if_neg (by omega), if_neg (by omega), if_neg (by omega)])
  first | refine wp_aload_n (pc := 0) dX7_file_0 rfl ?_ | refine wp_aload_nN (pc := 0) dX7_file_0 rfl ?_
  refine wp_iconst (pc := 1) (v := 0) dX7_file_1 (by decide) ?_
  refine wp_putI (pc := 2) dX7_file_2 fl_LevelStoreModel_89 (by first | assumption | exact Fx.ok (by assumption) (by decide)) rfl rfl (Or.inl rfl) ?_
  have h1 := h.z
  have hk1 := kC.z (I := I)
  generalize ab_u2 I 39 0 0 = J at h1 hk1 ⊢
  first | refine wp_aload_n (pc := 5) dX7_file_5 rfl ?_ | refine wp_aload_nN (pc := 5) dX7_file_5 rfl ?_
  refine wp_iload_n (pc := 6) dX7_file_6 rfl ?_
  refine wp_iload_n (pc := 7) dX7_file_7 rfl ?_
  refine cv_LevelStoreModel_216 (pc := 8) (m_slot hX h1 hs l i) rfl dX7_file_8 (by first | assumption | exact Fx.ok (by assumption) (by decide)) ⟨by decide, by decide, Nat.zero_le _, Nat.zero_le _⟩ (Nat.le_of_ble_eq_true rfl) (fun v h hp => ?_)
  obtain ⟨J2, rfl, hf2, ⟨rfl, hO⟩ | ⟨f, F, rfl, hf, hO, hsl, hne⟩⟩ := hp
  skip
  · skip
    refine wp_istore (pc := 11) dX7_file_11 (by decide) rfl ?_
    refine wp_iload (pc := 13) dX7_file_13 rfl ?_
    refine wp_if_ge (pc := 15) (tgt := 21) dX7_file_15 (by decide) (fun hc => ?_) (fun hc => ?_)
    · exact absurd hc (by decide)
    · skip
      refine wp_ldc (pc := 18) (v := -1000001) dX7_file_18 cn_LevelStoreModel_135 ?_
      refine wp_ret (pc := 20) dX7_file_20 rfl (by first | trivial | exact Or.inl rfl | exact Or.inr rfl | assumption) ?_
      exact mP.id (h1.ll hf2) (by unfold St.file; rw [hO]) (hk1.tr (hf2.kC (by simp)))
  · have ef : (nI f).toInt = f := tI_n (by omega)
    refine wp_istore (pc := 11) dX7_file_11 (by decide) rfl ?_
    refine wp_iload (pc := 13) dX7_file_13 rfl ?_
    refine wp_if_ge (pc := 15) (tgt := 21) dX7_file_15 (by decide) (fun hc => ?_) (fun hc => ?_)
    · skip
      exact fin J2 f F (h1.ll hf2) (hk1.tr (hf2.kC (by simp))) hf hO hsl hne _ ⟨rfl, rfl, rfl, rfl, rfl, trivial⟩
    · omega
theorem m_entry (hX : Fx n S R) (h : RM σ I SL) (hs : ∀ k, k < 4 → lsrt σ k) (l i k w : Int32) : wp 2 47 0 0 MX7_entry 0 [(0, .ref 39), (1, .int l), (2, .int i), (3, .int k), (4, .int w)] [] (n, S, R, I) (mP I n S R (σ.entry l i k w)) := by
  have z48 : (S 48).2 = 330 := hX.len (by decide)
  have z49 : (S 49).2 = 9900 := hX.len (by decide)
  have z50 : (S 50).2 = 9900 := hX.len (by decide)
  have z51 : (S 51).2 = 9900 := hX.len (by decide)
  have fin : ∀ (J : ab_II) (f : Nat) (F : FA), RM σ J SL → kC I J → f < 330 → σ.fileO l i = some F → slOK J f F → ∀ L, ab_sub L [(0, .ref 39), (1, .int l), (2, .int i), (3, .int k), (4, .int w), (5, .int (nI f))] → wp 2 47 0 0 MX7_entry 21 L [] (n, S, R, J) (mP I n S R (σ.entry l i k w)) := by
    intro J f F hR hk hf hO hsl L hL
    refine wp_loc hL ?_
    have hw : σ.entry l i k w = (toldE F.es k w, σ) := by unfold St.entry; rw [hO]
    have done : ∀ x : Int32, toldE F.es k w = x → mP I n S R (σ.entry l i k w) (some (.int x)) (n, S, R, J) := fun x e => mP.id hR (by rw [hw, e]) hk
    have ef : (nI f).toInt = f := tI_n (by omega)
    have cf : (nI f).toNatClampNeg = f := nI_c (by omega)
    obtain ⟨s1, s2, s3, s4, s5, s6⟩ := id hsl
    have e1 : (nI F.es.length).toInt = F.es.length := tI_n (by omega)
    have e2 : (nI F.es.length - 1).toInt64.toInt = (F.es.length : Int) - 1 := by rw [Int32.toInt_toInt64, tI_sub (by rw [e1, tl_1]; omega) (by rw [e1, tl_1]; omega), e1, tl_1]
    refine wp_iload_n (pc := 21) dX7_entry_21 rfl ?_
    refine wp_i2l (pc := 22) dX7_entry_22 ?_
    refine wp_lconst (pc := 23) (v := 0) dX7_entry_23 (by decide) ?_
    first | refine wp_aload_n (pc := 24) dX7_entry_24 rfl ?_ | refine wp_aload_nN (pc := 24) dX7_entry_24 rfl ?_
    refine wp_getR (pc := 25) dX7_entry_25 fl_LevelStoreModel_34 (by first | assumption | exact Fx.ok (by assumption) (by decide)) rfl (by first | assumption | exact Fx.ref (by assumption) rfl) ?_
    refine wp_iload (pc := 28) dX7_entry_28 rfl ?_
    refine wp_iaload (pc := 30) dX7_entry_30 (by first | assumption | exact Fx.ok (by assumption) (by decide)) (in_I (by omega) (by rw [z48]; omega)) ?_
    rw [cf, s4]
    refine wp_iconst (pc := 31) (v := 1) dX7_entry_31 (by decide) ?_
    refine wp_isub (pc := 32) dX7_entry_32 ?_
    refine wp_i2l (pc := 33) dX7_entry_33 ?_
    refine cv_LevelStoreModel_103 (pc := 34) (s_inI k l64_0 e2) rfl dX7_entry_34 ⟨by decide, by decide, Nat.zero_le _, Nat.zero_le _⟩ (Nat.le_of_ble_eq_true rfl) (fun v h hp => ?_)
    obtain ⟨rfl, rfl⟩ := hp
    refine wp_if_eq (pc := 37) (tgt := 53) dX7_entry_37 (by decide) (fun hc => ?_) (fun hc => ?_)
    · have hb := ite01 hc
      have hn : toldE F.es k w = cBAD := by unfold toldE; rw [if_neg (by omega)]
      refine wp_ldc (pc := 53) (v := -1000002) dX7_entry_53 cn_LevelStoreModel_111 ?_
      refine wp_ret (pc := 55) dX7_entry_55 rfl (by first | trivial | exact Or.inl rfl | exact Or.inr rfl | assumption) ?_
      exact done _ hn
    · have hb := ite01n hc
      have hin : 0 ≤ k.toInt ∧ k.toInt < F.es.length := by omega
      have hat := s6.at (j := k.toInt.toNat) (by omega)
      have ek : nI (30 * f) + k = nI (30 * f + k.toInt.toNat) := by rw [show k = nI k.toInt.toNat from tI_N (by omega)]; exact (nI_add _ _).trans (by rw [tI_n (by omega)]; rfl)
      have ek2 : (nI (30 * f + k.toInt.toNat)).toInt = ((30 * f + k.toInt.toNat : Nat) : Int) := tI_n (by omega)
      have ck : (nI (30 * f + k.toInt.toNat)).toNatClampNeg = 30 * f + k.toInt.toNat := nI_c (by omega)
      refine wp_iload (pc := 40) dX7_entry_40 rfl ?_
      refine wp_i2l (pc := 42) dX7_entry_42 ?_
      refine wp_lconst (pc := 43) (v := 0) dX7_entry_43 (by decide) ?_
      refine wp_ldc2 (pc := 44) (v := 2) dX7_entry_44 cl2_LevelStoreModel_126 ?_
      refine cv_LevelStoreModel_103 (pc := 47) (s_inI w l64_0 l64_2) rfl dX7_entry_47 ⟨by decide, by decide, Nat.zero_le _, Nat.zero_le _⟩ (Nat.le_of_ble_eq_true rfl) (fun v h hp => ?_)
      obtain ⟨rfl, rfl⟩ := hp
      refine wp_if_ne (pc := 50) (tgt := 56) dX7_entry_50 (by decide) (fun hc => ?_) (fun hc => ?_)
      · have hb2 := ite01n hc
        refine wp_bipush (pc := 56) (v := 30) dX7_entry_56 (by decide) ?_
        refine wp_iload (pc := 58) dX7_entry_58 rfl ?_
        refine wp_imul (pc := 60) dX7_entry_60 ?_
        rw [i30]
        refine wp_iload_n (pc := 61) dX7_entry_61 rfl ?_
        refine wp_iadd (pc := 62) dX7_entry_62 ?_
        rw [ek]
        refine wp_istore (pc := 63) dX7_entry_63 (by decide) rfl ?_
        refine wp_iload (pc := 65) dX7_entry_65 rfl ?_
        refine wp_if_ne (pc := 67) (tgt := 80) dX7_entry_67 (by decide) (fun hc => ?_) (fun hc => ?_)
        · skip
          refine wp_iload (pc := 80) dX7_entry_80 rfl ?_
          refine wp_iconst (pc := 82) (v := 1) dX7_entry_82 (by decide) ?_
          refine wp_icmp_ne (pc := 83) (tgt := 96) dX7_entry_83 (by decide) (fun hc => ?_) (fun hc => ?_)
          · rw [tl_1] at hc
            first | refine wp_aload_n (pc := 96) dX7_entry_96 rfl ?_ | refine wp_aload_nN (pc := 96) dX7_entry_96 rfl ?_
            refine wp_getR (pc := 97) dX7_entry_97 fl_LevelStoreModel_43 (by first | assumption | exact Fx.ok (by assumption) (by decide)) rfl (by first | assumption | exact Fx.ref (by assumption) rfl) ?_
            refine wp_iload (pc := 100) dX7_entry_100 rfl ?_
            refine wp_iaload (pc := 102) dX7_entry_102 (by first | assumption | exact Fx.ok (by assumption) (by decide)) (in_I (by omega) (by rw [z51]; omega)) ?_
            refine wp_ret (pc := 103) dX7_entry_103 rfl (by first | trivial | exact Or.inl rfl | exact Or.inr rfl | assumption) ?_
            first
            | exact done _ (by unfold toldE; rw [if_pos hin, if_pos (by omega)])
            | exact done _ (by unfold toldE; rw [if_pos hin, if_neg (by omega), if_pos (by omega)])
            | (rw [ck, hat.2.2]; exact done _ (by unfold toldE; rw [if_pos hin, if_neg (by omega), if_neg (by omega), if_pos (by omega)]))
          · rw [tl_1] at hc
            first | refine wp_aload_n (pc := 86) dX7_entry_86 rfl ?_ | refine wp_aload_nN (pc := 86) dX7_entry_86 rfl ?_
            refine wp_getR (pc := 87) dX7_entry_87 fl_LevelStoreModel_40 (by first | assumption | exact Fx.ok (by assumption) (by decide)) rfl (by first | assumption | exact Fx.ref (by assumption) rfl) ?_
            refine wp_iload (pc := 90) dX7_entry_90 rfl ?_
            refine wp_iaload (pc := 92) dX7_entry_92 (by first | assumption | exact Fx.ok (by assumption) (by decide)) (in_I (by omega) (by rw [z50]; omega)) ?_
            rw [ck, hat.2.1]
            refine wp_goto (pc := 93) (tgt := 103) dX7_entry_93 (by decide) ?_
            refine wp_ret (pc := 103) dX7_entry_103 rfl (by first | trivial | exact Or.inl rfl | exact Or.inr rfl | assumption) ?_
            first
            | exact done _ (by unfold toldE; rw [if_pos hin, if_pos (by omega)])
            | exact done _ (by unfold toldE; rw [if_pos hin, if_neg (by omega), if_pos (by omega)])
            | (rw [ck, hat.2.2]; exact done _ (by unfold toldE; rw [if_pos hin, if_neg (by omega), if_neg (by omega), if_pos (by omega)]))
        · skip
          first | refine wp_aload_n (pc := 70) dX7_entry_70 rfl ?_ | refine wp_aload_nN (pc := 70) dX7_entry_70 rfl ?_
          refine wp_getR (pc := 71) dX7_entry_71 fl_LevelStoreModel_37 (by first | assumption | exact Fx.ok (by assumption) (by decide)) rfl (by first | assumption | exact Fx.ref (by assumption) rfl) ?_
          refine wp_iload (pc := 74) dX7_entry_74 rfl ?_
          refine wp_iaload (pc := 76) dX7_entry_76 (by first | assumption | exact Fx.ok (by assumption) (by decide)) (in_I (by omega) (by rw [z49]; omega)) ?_
          rw [ck, hat.1]
          refine wp_goto (pc := 77) (tgt := 103) dX7_entry_77 (by decide) ?_
          refine wp_ret (pc := 103) dX7_entry_103 rfl (by first | trivial | exact Or.inl rfl | exact Or.inr rfl | assumption) ?_
          first
          | exact done _ (by unfold toldE; rw [if_pos hin, if_pos (by omega)])
          | exact done _ (by unfold toldE; rw [if_pos hin, if_neg (by omega), if_pos (by omega)])
          | (rw [ck, hat.2.2]; exact done _ (by unfold toldE; rw [if_pos hin, if_neg (by omega), if_neg (by omega), if_pos (by omega)]))
      · have hb2 := ite01 hc
        have hn : toldE F.es k w = cBAD := by unfold toldE; rw [if_pos hin, if_neg (by omega), if_neg (by omega), if_neg (by omega)]
        refine wp_ldc (pc := 53) (v := -1000002) dX7_entry_53 cn_LevelStoreModel_111 ?_
        refine wp_ret (pc := 55) dX7_entry_55 rfl (by first | trivial | exact Or.inl rfl | exact Or.inr rfl | assumption) ?_
        exact done _ hn
  first | refine wp_aload_n (pc := 0) dX7_entry_0 rfl ?_ | refine wp_aload_nN (pc := 0) dX7_entry_0 rfl ?_
  refine wp_iconst (pc := 1) (v := 0) dX7_entry_1 (by decide) ?_
  refine wp_putI (pc := 2) dX7_entry_2 fl_LevelStoreModel_89 (by first | assumption | exact Fx.ok (by assumption) (by decide)) rfl rfl (Or.inl rfl) ?_
  have h1 := h.z
  have hk1 := kC.z (I := I)
  generalize ab_u2 I 39 0 0 = J at h1 hk1 ⊢
  first | refine wp_aload_n (pc := 5) dX7_entry_5 rfl ?_ | refine wp_aload_nN (pc := 5) dX7_entry_5 rfl ?_
  refine wp_iload_n (pc := 6) dX7_entry_6 rfl ?_
  refine wp_iload_n (pc := 7) dX7_entry_7 rfl ?_
  refine cv_LevelStoreModel_216 (pc := 8) (m_slot hX h1 hs l i) rfl dX7_entry_8 (by first | assumption | exact Fx.ok (by assumption) (by decide)) ⟨by decide, by decide, Nat.zero_le _, Nat.zero_le _⟩ (Nat.le_of_ble_eq_true rfl) (fun v h hp => ?_)
  obtain ⟨J2, rfl, hf2, ⟨rfl, hO⟩ | ⟨f, F, rfl, hf, hO, hsl, hne⟩⟩ := hp
  skip
  · skip
    refine wp_istore (pc := 11) dX7_entry_11 (by decide) rfl ?_
    refine wp_iload (pc := 13) dX7_entry_13 rfl ?_
    refine wp_if_ge (pc := 15) (tgt := 21) dX7_entry_15 (by decide) (fun hc => ?_) (fun hc => ?_)
    · exact absurd hc (by decide)
    · skip
      refine wp_ldc (pc := 18) (v := -1000001) dX7_entry_18 cn_LevelStoreModel_135 ?_
      refine wp_ret (pc := 20) dX7_entry_20 rfl (by first | trivial | exact Or.inl rfl | exact Or.inr rfl | assumption) ?_
      exact mP.id (h1.ll hf2) (by unfold St.entry; rw [hO]) (hk1.tr (hf2.kC (by simp)))
  · have ef : (nI f).toInt = f := tI_n (by omega)
    refine wp_istore (pc := 11) dX7_entry_11 (by decide) rfl ?_
    refine wp_iload (pc := 13) dX7_entry_13 rfl ?_
    refine wp_if_ge (pc := 15) (tgt := 21) dX7_entry_15 (by decide) (fun hc => ?_) (fun hc => ?_)
    · skip
      exact fin J2 f F (h1.ll hf2) (hk1.tr (hf2.kC (by simp))) hf hO hsl _ ⟨rfl, rfl, rfl, rfl, rfl, rfl, trivial⟩
    · omega
end M6
