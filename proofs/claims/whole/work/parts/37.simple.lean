/-! THE PROGRAM'S SMALL CALLS -/
section SM
variable {σ : St} {n : Nat} {S : ab_SH} {R : ab_RR} {I : ab_II} {A : AC} {P : Nat → List Nat} {sp : List FA}
theorem RC.setD (h : RC σ n S R I A P sp) {I' : ab_II} {log : List En} {syn num : Nat} {V : Nat → Int32} (hk : ∀ j, j ∉ [3, 4, 5, 6, 7, 8] → I' j = I j) (lg : rwL I' 4 5 6 7 log) (h1 : I' 3 1 = nI syn) (h2 : I' 3 2 = nI num) (h9 : I' 3 9 = I 3 9) (hV : I' 8 = V) : RC (σ.D log syn num V) n S R I' A P sp := by
  refine ⟨⟨h.fx, h.lF.keep (fun i hi => hk _ (by have := xk_in hi; simp; omega)) (fun j hj => hk j (by simp; omega)), h.tp⟩, ⟨lg, ⟨h1, h2, by rw [h9]; exact h.c3.2.2⟩, hV, by rw [hk _ (by decide)]; exact h.b, by rw [hk _ (by decide)]; exact h.tk⟩, ?_, h.sr.keep (hk _ (by decide)) (hk _ (by decide)) (hk _ (by decide)) (hk _ (by decide)), h.mk.keep (hk _ (by decide)) (hk _ (by decide)) (hk _ (by decide)) (hk _ (by decide)), fun j hj => by rw [hk _ (by decide)]; exact h.bits j hj⟩
  have := h.cj
  unfold rCJ at this ⊢
  rw [hk 27 (by decide)]
  exact this
theorem RC.same (h : RC σ n S R I A P sp) {I' : ab_II} (hk : ∀ j, j ∉ [20, 23, 24, 25, 26] → I' j = I j) : RC σ n S R I' A P sp := by
  refine ⟨⟨h.fx, h.lF.keep (fun i hi => hk _ (by have := xk_in hi; simp; omega)) (fun j hj => hk j (by simp; omega)), h.tp⟩, ⟨h.lg.keep (hk _ (by decide)) (hk _ (by decide)) (hk _ (by decide)) (hk _ (by decide)), ?_, by rw [hk _ (by decide)]; exact h.v, by rw [hk _ (by decide)]; exact h.b, by rw [hk _ (by decide)]; exact h.tk⟩, ?_, h.sr.keep (hk _ (by decide)) (hk _ (by decide)) (hk _ (by decide)) (hk _ (by decide)), h.mk.keep (hk _ (by decide)) (hk _ (by decide)) (hk _ (by decide)) (hk _ (by decide)), fun j hj => by rw [hk _ (by decide)]; exact h.bits j hj⟩
  · have := h.c3
    unfold rC3 at this ⊢
    rw [hk 3 (by decide)]
    exact this
  · have := h.cj
    unfold rCJ at this ⊢
    rw [hk 27 (by decide)]
    exact this
theorem s_isKey (k : Int32) : wp 0 0 0 0 MX6_isKey 0 [(0, .int k)] [] (n, S, R, I) (fun v h => h = (n, S, R, I) ∧ v = some (.int (if isK k then 1 else 0))) := by
  have t1000 : (1000 : Int32).toInt = 1000 := by decide
  refine wp_iload_n (pc := 0) dX6_isKey_0 rfl ?_
  refine wp_if_lt (pc := 1) (tgt := 15) dX6_isKey_1 (by decide) (fun hc => ?_) (fun hc => ?_)
  · skip
    refine wp_iconst (pc := 15) (v := 0) dX6_isKey_15 (by decide) ?_
    refine wp_ret (pc := 16) dX6_isKey_16 rfl (by first | trivial | exact Or.inl rfl | exact Or.inr rfl | assumption) ?_
    first | exact ⟨rfl, by rw [if_neg (by unfold isK; omega)]⟩ | exact ⟨rfl, by rw [if_pos (by unfold isK; omega)]⟩
  · skip
    refine wp_iload_n (pc := 4) dX6_isKey_4 rfl ?_
    refine wp_sipush (pc := 5) (v := 1000) dX6_isKey_5 (by decide) ?_
    refine wp_icmp_ge (pc := 8) (tgt := 15) dX6_isKey_8 (by decide) (fun hc => ?_) (fun hc => ?_)
    · rw [t1000] at hc
      refine wp_iconst (pc := 15) (v := 0) dX6_isKey_15 (by decide) ?_
      refine wp_ret (pc := 16) dX6_isKey_16 rfl (by first | trivial | exact Or.inl rfl | exact Or.inr rfl | assumption) ?_
      first | exact ⟨rfl, by rw [if_neg (by unfold isK; omega)]⟩ | exact ⟨rfl, by rw [if_pos (by unfold isK; omega)]⟩
    · rw [t1000] at hc
      refine wp_iconst (pc := 11) (v := 1) dX6_isKey_11 (by decide) ?_
      refine wp_goto (pc := 12) (tgt := 16) dX6_isKey_12 (by decide) ?_
      refine wp_ret (pc := 16) dX6_isKey_16 rfl (by first | trivial | exact Or.inl rfl | exact Or.inr rfl | assumption) ?_
      first | exact ⟨rfl, by rw [if_neg (by unfold isK; omega)]⟩ | exact ⟨rfl, by rw [if_pos (by unfold isK; omega)]⟩
theorem s_write (h : RC σ n S R I A P sp) (hl : σ.log.length ≤ 24) (hn : σ.num ≤ 60000) (k v : Int32) : wp 3 68 0 0 MX6_write 0 [(0, .ref 3), (1, .int k), (2, .int v)] [] (n, S, R, I) (cP I n S R (σ.write k v)) := by
  have hX := h.fx
  obtain ⟨g, hg, hgl⟩ := h.lg
  have e1 : (I 4 3).toInt = σ.log.length := by rw [hg.1, tI_n (by omega)]
  have e2 : (I 3 2).toInt = σ.num := by rw [h.c3.2.1, tI_n (by omega)]
  have t6 : (60000 : Int32).toInt = 60000 := by decide
  have hF : 24 ≤ σ.log.length ∨ 60000 ≤ σ.num → σ.write k v = (cFULL, σ) := fun q => by unfold St.write; rw [if_pos q]
  have hg2 : ∀ x, rw_I (ab_u2 I 3 2 x) 4 5 6 7 σ.log.length g := fun x => hg
  first | refine wp_aload_n (pc := 0) dX6_write_0 rfl ?_ | refine wp_aload_nN (pc := 0) dX6_write_0 rfl ?_
  refine wp_getR (pc := 1) dX6_write_1 fl_LevelStore_14 (by first | assumption | exact Fx.ok (by assumption) (by decide)) rfl (by first | assumption | exact Fx.ref (by assumption) rfl) ?_
  refine wp_getI (pc := 4) dX6_write_4 fl_LevelStore_66 (by first | assumption | exact Fx.ok (by assumption) (by decide)) rfl ?_
  refine wp_bipush (pc := 7) (v := 24) dX6_write_7 (by decide) ?_
  refine wp_icmp_ge (pc := 9) (tgt := 21) dX6_write_9 (by decide) (fun hc => ?_) (fun hc => ?_)
  · rw [tl_24] at hc
    refine wp_ldc (pc := 21) (v := -1000004) dX6_write_21 cn_LevelStore_185 ?_
    refine wp_ret (pc := 23) dX6_write_23 rfl (by first | trivial | exact Or.inl rfl | exact Or.inr rfl | assumption) ?_
    rw [hF (by omega)]; exact cP.id h
  · rw [tl_24] at hc
    first | refine wp_aload_n (pc := 12) dX6_write_12 rfl ?_ | refine wp_aload_nN (pc := 12) dX6_write_12 rfl ?_
    refine wp_getI (pc := 13) dX6_write_13 fl_LevelStore_80 (by first | assumption | exact Fx.ok (by assumption) (by decide)) rfl ?_
    refine wp_ldc (pc := 16) (v := 60000) dX6_write_16 cn_LevelStore_254 ?_
    refine wp_icmp_lt (pc := 18) (tgt := 24) dX6_write_18 (by decide) (fun hc => ?_) (fun hc => ?_)
    · rw [t6] at hc
      first | refine wp_aload_n (pc := 24) dX6_write_24 rfl ?_ | refine wp_aload_nN (pc := 24) dX6_write_24 rfl ?_
      refine wp_dup (pc := 25) dX6_write_25 rfl ?_
      refine wp_getI (pc := 26) dX6_write_26 fl_LevelStore_80 (by first | assumption | exact Fx.ok (by assumption) (by decide)) rfl ?_
      refine wp_iconst (pc := 29) (v := 1) dX6_write_29 (by decide) ?_
      refine wp_iadd (pc := 30) dX6_write_30 ?_
      rw [h.c3.2.1, nI_1]
      refine wp_putI (pc := 31) dX6_write_31 fl_LevelStore_80 (by first | assumption | exact Fx.ok (by assumption) (by decide)) rfl rfl (Or.inl rfl) ?_
      first | refine wp_aload_n (pc := 34) dX6_write_34 rfl ?_ | refine wp_aload_nN (pc := 34) dX6_write_34 rfl ?_
      refine wp_getR (pc := 35) dX6_write_35 fl_LevelStore_14 (by first | assumption | exact Fx.ok (by assumption) (by decide)) rfl (by first | assumption | exact Fx.ref (by assumption) rfl) ?_
      refine wp_iload_n (pc := 38) dX6_write_38 rfl ?_
      first | refine wp_aload_n (pc := 39) dX6_write_39 rfl ?_ | refine wp_aload_nN (pc := 39) dX6_write_39 rfl ?_
      refine wp_getI (pc := 40) dX6_write_40 fl_LevelStore_80 (by first | assumption | exact Fx.ok (by assumption) (by decide)) rfl ?_
      refine wp_iload_n (pc := 43) dX6_write_43 rfl ?_
      rw [ab_u2_s]
      refine cv_LevelStore_255 (pc := 44) (s_X4_add hX.log (hg2 _) (by omega) _ _ _) rfl dX6_write_44 (by first | assumption | exact Fx.ok (by assumption) (by decide)) ⟨by decide, by decide, Nat.zero_le _, Nat.zero_le _⟩ (Nat.le_of_ble_eq_true rfl) (fun v h hp => ?_)
      obtain ⟨rfl, I', rfl, hf, hr⟩ := hp
      first | refine wp_aload_n (pc := 47) dX6_write_47 rfl ?_ | refine wp_aload_nN (pc := 47) dX6_write_47 rfl ?_
      refine wp_getI (pc := 48) dX6_write_48 fl_LevelStore_80 (by first | assumption | exact Fx.ok (by assumption) (by decide)) rfl ?_
      rw [hf 3 (by simp), ab_u2_s]
      refine wp_ret (pc := 51) dX6_write_51 rfl (by first | trivial | exact Or.inl rfl | exact Or.inr rfl | assumption) ?_
      have hw : σ.write k v = (nI (σ.num + 1), σ.D (σ.log ++ [(k, nI (σ.num + 1), v)]) σ.syn (σ.num + 1) σ.V) := by unfold St.write; rw [if_neg (by omega)]
      rw [hw]
      refine ⟨rfl, n, S, R, I', A, P, sp, rfl, ab_ex.rf, h.setD (fun j hj => ?_) ⟨_, by rw [List.length_append]; exact hr, ?_⟩ ?_ ?_ ?_ ?_, fun j hj => ?_⟩
      · simp only [List.mem_cons, List.not_mem_nil, or_false, not_or] at hj
        rw [hf j (by simp; omega), ab_u2_r _ _ (by omega)]
      · rw [List.length_append]
        show rl (σ.log.length + 1) _ = _
        rw [rl_succ]
        congr 1
        · rw [← hgl, rl_len]
          exact rl_congr (fun j hj => by simp [va_up, Nat.ne_of_lt hj])
        · simp [va_up]
      · rw [hf 3 (by simp), ab_u2_n _ _ (Or.inr (by decide))]; exact h.c3.1
      · rw [hf 3 (by simp), ab_u2_s]
      · rw [hf 3 (by simp), ab_u2_n _ _ (Or.inr (by decide))]
      · rw [hf 8 (by simp), ab_u2_r _ _ (by decide)]; exact h.v
      · rw [hf j (by simp; omega), ab_u2_r _ _ (by omega)]
    · rw [t6] at hc
      refine wp_ldc (pc := 21) (v := -1000004) dX6_write_21 cn_LevelStore_185 ?_
      refine wp_ret (pc := 23) dX6_write_23 rfl (by first | trivial | exact Or.inl rfl | exact Or.inr rfl | assumption) ?_
      rw [hF (by omega)]; exact cP.id h
theorem ite01 {p : Prop} [Decidable p] (h : (if p then (1 : Int32) else 0).toInt = 0) : ¬ p := fun q => by rw [if_pos q] at h; exact absurd h (by decide)
theorem ite01n {p : Prop} [Decidable p] (h : (if p then (1 : Int32) else 0).toInt ≠ 0) : p := Decidable.byContradiction fun q => by rw [if_neg q] at h; exact h rfl
theorem s_put (h : RC σ n S R I A P sp) (hl : σ.log.length ≤ 24) (hn : σ.num ≤ 60000) (k v : Int32) : wp 4 90 0 0 MX6_put 0 [(0, .ref 3), (1, .int k), (2, .int v)] [] (n, S, R, I) (cP I n S R (σ.put k v)) := by
  have hX := h.fx
  have t1 : (-100000 : Int32).toInt = -100000 := by decide
  have t2 : (100000 : Int32).toInt = 100000 := by decide
  have hB : ¬ (isK k ∧ -100000 ≤ v.toInt ∧ v.toInt ≤ 100000) → σ.put k v = (cBAD, σ) := fun q => by unfold St.put; rw [if_neg q]
  refine wp_iload_n (pc := 0) dX6_put_0 rfl ?_
  refine cv_LevelStore_54 (pc := 1) (s_isKey k) rfl dX6_put_1 ⟨by decide, by decide, Nat.zero_le _, Nat.zero_le _⟩ (Nat.le_of_ble_eq_true rfl) (fun v h hp => ?_)
  obtain ⟨rfl, rfl⟩ := hp
  refine wp_if_eq (pc := 4) (tgt := 19) dX6_put_4 (by decide) (fun hc => ?_) (fun hc => ?_)
  · have hk := ite01 hc
    refine wp_ldc (pc := 19) (v := -1000002) dX6_put_19 cn_LevelStore_60 ?_
    refine wp_ret (pc := 21) dX6_put_21 rfl (by first | trivial | exact Or.inl rfl | exact Or.inr rfl | assumption) ?_
    first | (rw [hB (fun q => hk q.1)]; exact cP.id h) | (rw [hB (by omega)]; exact cP.id h)
  · have hk := ite01n hc
    refine wp_iload_n (pc := 7) dX6_put_7 rfl ?_
    refine wp_ldc (pc := 8) (v := -100000) dX6_put_8 cn_LevelStore_58 ?_
    refine wp_icmp_lt (pc := 10) (tgt := 19) dX6_put_10 (by decide) (fun hc => ?_) (fun hc => ?_)
    · rw [t1] at hc
      refine wp_ldc (pc := 19) (v := -1000002) dX6_put_19 cn_LevelStore_60 ?_
      refine wp_ret (pc := 21) dX6_put_21 rfl (by first | trivial | exact Or.inl rfl | exact Or.inr rfl | assumption) ?_
      first | (rw [hB (fun q => hk q.1)]; exact cP.id h) | (rw [hB (by omega)]; exact cP.id h)
    · rw [t1] at hc
      have hc1 := hc
      refine wp_iload_n (pc := 13) dX6_put_13 rfl ?_
      refine wp_ldc (pc := 14) (v := 100000) dX6_put_14 cn_LevelStore_59 ?_
      refine wp_icmp_le (pc := 16) (tgt := 22) dX6_put_16 (by decide) (fun hc => ?_) (fun hc => ?_)
      · rw [t2] at hc
        first | refine wp_aload_n (pc := 22) dX6_put_22 rfl ?_ | refine wp_aload_nN (pc := 22) dX6_put_22 rfl ?_
        refine wp_iload_n (pc := 23) dX6_put_23 rfl ?_
        refine wp_iload_n (pc := 24) dX6_put_24 rfl ?_
        have e : σ.put k v = σ.write k v := by have hq : isK k ∧ -100000 ≤ v.toInt ∧ v.toInt ≤ 100000 := ⟨hk, by omega, by omega⟩; unfold St.put; rw [if_pos hq]
        refine cv_LevelStore_61 (pc := 25) (s_write h hl hn k v) rfl dX6_put_25 (by first | assumption | exact Fx.ok (by assumption) (by decide)) ⟨by decide, by decide, Nat.zero_le _, Nat.zero_le _⟩ (Nat.le_of_ble_eq_true rfl) (fun v h hp => ?_)
        rw [← e] at hp
        obtain ⟨rfl, n', S', R', I', A', P', sp', rfl, hp⟩ := hp
        refine wp_ret (pc := 28) dX6_put_28 rfl (by first | trivial | exact Or.inl rfl | exact Or.inr rfl | assumption) ?_
        exact ⟨rfl, n', S', R', I', A', P', sp', rfl, hp⟩
      · rw [t2] at hc
        refine wp_ldc (pc := 19) (v := -1000002) dX6_put_19 cn_LevelStore_60 ?_
        refine wp_ret (pc := 21) dX6_put_21 rfl (by first | trivial | exact Or.inl rfl | exact Or.inr rfl | assumption) ?_
        first | (rw [hB (fun q => hk q.1)]; exact cP.id h) | (rw [hB (by omega)]; exact cP.id h)
theorem s_drop (h : RC σ n S R I A P sp) (hl : σ.log.length ≤ 24) (hn : σ.num ≤ 60000) (k : Int32) : wp 4 90 0 0 MX6_drop 0 [(0, .ref 3), (1, .int k)] [] (n, S, R, I) (cP I n S R (σ.drop k)) := by
  have hX := h.fx
  refine wp_iload_n (pc := 0) dX6_drop_0 rfl ?_
  refine cv_LevelStore_54 (pc := 1) (s_isKey k) rfl dX6_drop_1 ⟨by decide, by decide, Nat.zero_le _, Nat.zero_le _⟩ (Nat.le_of_ble_eq_true rfl) (fun v h hp => ?_)
  obtain ⟨rfl, rfl⟩ := hp
  refine wp_if_ne (pc := 4) (tgt := 10) dX6_drop_4 (by decide) (fun hc => ?_) (fun hc => ?_)
  · have hk := ite01n hc
    first | refine wp_aload_n (pc := 10) dX6_drop_10 rfl ?_ | refine wp_aload_nN (pc := 10) dX6_drop_10 rfl ?_
    refine wp_iload_n (pc := 11) dX6_drop_11 rfl ?_
    refine wp_ldc (pc := 12) (v := -1000009) dX6_drop_12 cn_LevelStore_65 ?_
    refine cv_LevelStore_61 (pc := 14) (s_write h hl hn k cNONE) rfl dX6_drop_14 (by first | assumption | exact Fx.ok (by assumption) (by decide)) ⟨by decide, by decide, Nat.zero_le _, Nat.zero_le _⟩ (Nat.le_of_ble_eq_true rfl) (fun v h hp => ?_)
    have e : σ.drop k = σ.write k cNONE := by unfold St.drop; rw [if_pos hk]
    rw [← e] at hp
    obtain ⟨rfl, n', S', R', I', A', P', sp', rfl, hp⟩ := hp
    refine wp_ret (pc := 17) dX6_drop_17 rfl (by first | trivial | exact Or.inl rfl | exact Or.inr rfl | assumption) ?_
    exact ⟨rfl, n', S', R', I', A', P', sp', rfl, hp⟩
  · have hk := ite01 hc
    refine wp_ldc (pc := 7) (v := -1000002) dX6_drop_7 cn_LevelStore_60 ?_
    refine wp_ret (pc := 9) dX6_drop_9 rfl (by first | trivial | exact Or.inl rfl | exact Or.inr rfl | assumption) ?_
    rw [show σ.drop k = (cBAD, σ) by unfold St.drop; rw [if_neg hk]]; exact cP.id h
theorem s_sync (h : RC σ n S R I A P sp) (hs : σ.syn ≤ σ.log.length) : wp 0 0 0 0 MX6_sync 0 [(0, .ref 3)] [] (n, S, R, I) (cP I n S R σ.sync) := by
  have hX := h.fx
  obtain ⟨g, hg, hgl⟩ := h.lg
  first | refine wp_aload_n (pc := 0) dX6_sync_0 rfl ?_ | refine wp_aload_nN (pc := 0) dX6_sync_0 rfl ?_
  refine wp_getR (pc := 1) dX6_sync_1 fl_LevelStore_14 (by first | assumption | exact Fx.ok (by assumption) (by decide)) rfl (by first | assumption | exact Fx.ref (by assumption) rfl) ?_
  refine wp_getI (pc := 4) dX6_sync_4 fl_LevelStore_66 (by first | assumption | exact Fx.ok (by assumption) (by decide)) rfl ?_
  first | refine wp_aload_n (pc := 7) dX6_sync_7 rfl ?_ | refine wp_aload_nN (pc := 7) dX6_sync_7 rfl ?_
  refine wp_getI (pc := 8) dX6_sync_8 fl_LevelStore_70 (by first | assumption | exact Fx.ok (by assumption) (by decide)) rfl ?_
  refine wp_isub (pc := 11) dX6_sync_11 ?_
  refine wp_istore_n (pc := 12) dX6_sync_12 (by decide) rfl ?_
  first | refine wp_aload_n (pc := 13) dX6_sync_13 rfl ?_ | refine wp_aload_nN (pc := 13) dX6_sync_13 rfl ?_
  first | refine wp_aload_n (pc := 14) dX6_sync_14 rfl ?_ | refine wp_aload_nN (pc := 14) dX6_sync_14 rfl ?_
  refine wp_getR (pc := 15) dX6_sync_15 fl_LevelStore_14 (by first | assumption | exact Fx.ok (by assumption) (by decide)) rfl (by first | assumption | exact Fx.ref (by assumption) rfl) ?_
  refine wp_getI (pc := 18) dX6_sync_18 fl_LevelStore_66 (by first | assumption | exact Fx.ok (by assumption) (by decide)) rfl ?_
  refine wp_putI (pc := 21) dX6_sync_21 fl_LevelStore_70 (by first | assumption | exact Fx.ok (by assumption) (by decide)) rfl rfl (Or.inl rfl) ?_
  refine wp_iload_n (pc := 24) dX6_sync_24 rfl ?_
  refine wp_ret (pc := 25) dX6_sync_25 rfl (by first | trivial | exact Or.inl rfl | exact Or.inr rfl | assumption) ?_
  rw [hg.1, h.c3.1]
  refine ⟨by rw [show nI σ.log.length - nI σ.syn = nI (σ.log.length - σ.syn) from pk_sub hs]; rfl, n, S, R, _, A, P, sp, rfl, ab_ex.rf, h.setD (fun j hj => ?_) ?_ ?_ ?_ ?_ ?_, fun j hj => ?_⟩
  · simp only [List.mem_cons, List.not_mem_nil, or_false, not_or] at hj
    rw [ab_u2_r _ _ (by omega)]
  · exact h.lg.keep (ab_u2_r _ _ (by decide)) (ab_u2_r _ _ (by decide)) (ab_u2_r _ _ (by decide)) (ab_u2_r _ _ (by decide))
  · rw [ab_u2_s]
  · rw [ab_u2_n _ _ (Or.inr (by decide))]; exact h.c3.2.1
  · rw [ab_u2_n _ _ (Or.inr (by decide))]
  · rw [ab_u2_r _ _ (by decide)]; exact h.v
  · rw [ab_u2_r _ _ (by omega)]
theorem s_stop (h : RC σ n S R I A P sp) (hP : PLC σ.FS) (hnf : (σ.FS 5).length ≤ σ.nf) : wp 10 240 (pC A 4) (pS A 4) MX6_stop 0 [(0, .ref 3)] [] (n, S, R, I) (cP I n S R σ.stop) := by
  have hX := h.fx
  first | refine wp_aload_n (pc := 0) dX6_stop_0 rfl ?_ | refine wp_aload_nN (pc := 0) dX6_stop_0 rfl ?_
  refine wp_getR (pc := 1) dX6_stop_1 fl_LevelStore_50 (by first | assumption | exact Fx.ok (by assumption) (by decide)) rfl (by first | assumption | exact Fx.ref (by assumption) rfl) ?_
  refine wp_getI (pc := 4) dX6_stop_4 fl_LevelStore_108 (by first | assumption | exact Fx.ok (by assumption) (by decide)) rfl ?_
  refine wp_if_ne (pc := 7) (tgt := 13) dX6_stop_7 (by decide) (fun hc => ?_) (fun hc => ?_)
  · have hjt : σ.job = true := by cases q : σ.job <;> rw [h.cj.1, q] at hc <;> first | rfl | exact absurd rfl hc
    first | refine wp_aload_n (pc := 13) dX6_stop_13 rfl ?_ | refine wp_aload_nN (pc := 13) dX6_stop_13 rfl ?_
    refine cv_LevelStore_73 (pc := 14) (s_giveUp h hP hnf) rfl dX6_stop_14 (by first | assumption | exact Fx.ok (by assumption) (by decide)) ⟨by decide, by decide, Nat.le_refl _, Nat.le_refl _⟩ (Nat.le_of_ble_eq_true rfl) (fun v h hp => ?_)
    obtain ⟨rfl, n1, S1, R1, I1, A1, P1, sp1, rfl, he1, hRC1, hk1⟩ := hp
    refine wp_ret (pc := 17) dX6_stop_17 rfl (by first | trivial | exact Or.inl rfl | exact Or.inr rfl | assumption) ?_
    rw [show σ.stop = (nI (σ.FS 5).length, σ.giveUp) by unfold St.stop; rw [if_pos hjt]]; exact ⟨rfl, n1, S1, R1, I1, A1, P1, sp1, rfl, he1, hRC1, hk1⟩
  · have hjf : σ.job = false := by cases q : σ.job <;> rw [h.cj.1, q] at hc <;> first | rfl | exact absurd hc (by decide)
    refine wp_ldc (pc := 10) (v := -1000003) dX6_stop_10 cn_LevelStore_107 ?_
    refine wp_ret (pc := 12) dX6_stop_12 rfl (by first | trivial | exact Or.inl rfl | exact Or.inr rfl | assumption) ?_
    rw [show σ.stop = (cSTATE, σ) by unfold St.stop; rw [if_neg (by rw [hjf]; decide)]]; exact cP.id h
theorem s_isView (hX : Fx n S R) (v : Int32) : wp 0 0 0 0 MX6_isView 0 [(0, .ref 3), (1, .int v)] [] (n, S, R, I) (fun w h => h = (n, S, R, I) ∧ w = some (.int (if isV v then 1 else 0))) := by
  have z : (S 8).2 = 3 := hX.len (by decide)
  have o8 : ab_ok n S 8 9 := hX.ok (by decide)
  refine wp_iload_n (pc := 0) dX6_isView_0 rfl ?_
  refine wp_if_lt (pc := 1) (tgt := 17) dX6_isView_1 (by decide) (fun hc => ?_) (fun hc => ?_)
  · skip
    refine wp_iconst (pc := 17) (v := 0) dX6_isView_17 (by decide) ?_
    refine wp_ret (pc := 18) dX6_isView_18 rfl (by first | trivial | exact Or.inl rfl | exact Or.inr rfl | assumption) ?_
    first | exact ⟨rfl, by rw [if_neg (by unfold isV; omega)]⟩ | exact ⟨rfl, by rw [if_pos (by unfold isV; omega)]⟩
  · skip
    refine wp_iload_n (pc := 4) dX6_isView_4 rfl ?_
    first | refine wp_aload_n (pc := 5) dX6_isView_5 rfl ?_ | refine wp_aload_nN (pc := 5) dX6_isView_5 rfl ?_
    refine wp_getR (pc := 6) dX6_isView_6 fl_LevelStore_18 (by first | assumption | exact Fx.ok (by assumption) (by decide)) rfl (by first | assumption | exact Fx.ref (by assumption) rfl) ?_
    first | refine wp_alen (pc := 9) dX6_isView_9 (Or.inl (by assumption)) ?_ | refine wp_alen (pc := 9) dX6_isView_9 (Or.inr (Or.inl (by assumption))) ?_ | refine wp_alen (pc := 9) dX6_isView_9 (Or.inr (Or.inr (Or.inl (by assumption)))) ?_ | refine wp_alen (pc := 9) dX6_isView_9 (Or.inr (Or.inr (Or.inr (by assumption)))) ?_
    refine wp_icmp_ge (pc := 10) (tgt := 17) dX6_isView_10 (by decide) (fun hc => ?_) (fun hc => ?_)
    · rw [z, tI_o (by omega)] at hc
      refine wp_iconst (pc := 17) (v := 0) dX6_isView_17 (by decide) ?_
      refine wp_ret (pc := 18) dX6_isView_18 rfl (by first | trivial | exact Or.inl rfl | exact Or.inr rfl | assumption) ?_
      first | exact ⟨rfl, by rw [if_neg (by unfold isV; omega)]⟩ | exact ⟨rfl, by rw [if_pos (by unfold isV; omega)]⟩
    · rw [z, tI_o (by omega)] at hc
      refine wp_iconst (pc := 13) (v := 1) dX6_isView_13 (by decide) ?_
      refine wp_goto (pc := 14) (tgt := 18) dX6_isView_14 (by decide) ?_
      refine wp_ret (pc := 18) dX6_isView_18 rfl (by first | trivial | exact Or.inl rfl | exact Or.inr rfl | assumption) ?_
      first | exact ⟨rfl, by rw [if_neg (by unfold isV; omega)]⟩ | exact ⟨rfl, by rw [if_pos (by unfold isV; omega)]⟩
theorem s_numV (h : RC σ n S R I A P sp) (v : Int32) : wp 1 21 0 0 MX6_numberOfView 0 [(0, .ref 3), (1, .int v)] [] (n, S, R, I) (fun w h => h = (n, S, R, I) ∧ w = some (.int (if isV v then σ.V v.toInt.toNat else -1))) := by
  have hX := h.fx
  have z : (S 8).2 = 3 := hX.len (by decide)
  have o8 : ab_ok n S 8 9 := hX.ok (by decide)
  first | refine wp_aload_n (pc := 0) dX6_numberOfView_0 rfl ?_ | refine wp_aload_nN (pc := 0) dX6_numberOfView_0 rfl ?_
  refine wp_iload_n (pc := 1) dX6_numberOfView_1 rfl ?_
  refine cv_LevelStore_104 (pc := 2) (s_isView hX v) rfl dX6_numberOfView_2 (by first | assumption | exact Fx.ok (by assumption) (by decide)) ⟨by decide, by decide, Nat.zero_le _, Nat.zero_le _⟩ (Nat.le_of_ble_eq_true rfl) (fun v h hp => ?_)
  obtain ⟨rfl, rfl⟩ := hp
  refine wp_if_eq (pc := 5) (tgt := 17) dX6_numberOfView_5 (by decide) (fun hc => ?_) (fun hc => ?_)
  · have hv := ite01 hc
    refine wp_iconst (pc := 17) (v := -1) dX6_numberOfView_17 (by decide) ?_
    refine wp_ret (pc := 18) dX6_numberOfView_18 rfl (by first | trivial | exact Or.inl rfl | exact Or.inr rfl | assumption) ?_
    first | exact ⟨rfl, by rw [if_neg hv]⟩ | exact ⟨rfl, by rw [if_pos hv, tI_c, h.v]⟩
  · have hv := ite01n hc
    first | refine wp_aload_n (pc := 8) dX6_numberOfView_8 rfl ?_ | refine wp_aload_nN (pc := 8) dX6_numberOfView_8 rfl ?_
    refine wp_getR (pc := 9) dX6_numberOfView_9 fl_LevelStore_18 (by first | assumption | exact Fx.ok (by assumption) (by decide)) rfl (by first | assumption | exact Fx.ref (by assumption) rfl) ?_
    refine wp_iload_n (pc := 12) dX6_numberOfView_12 rfl ?_
    refine wp_iaload (pc := 13) dX6_numberOfView_13 (by first | assumption | exact Fx.ok (by assumption) (by decide)) (in_I hv.1 (by rw [z]; exact hv.2)) ?_
    refine wp_goto (pc := 14) (tgt := 18) dX6_numberOfView_14 (by decide) ?_
    refine wp_ret (pc := 18) dX6_numberOfView_18 rfl (by first | trivial | exact Or.inl rfl | exact Or.inr rfl | assumption) ?_
    first | exact ⟨rfl, by rw [if_neg hv]⟩ | exact ⟨rfl, by rw [if_pos hv, tI_c, h.v]⟩
theorem notHeld {v : Int32} (q : ¬ σ.held v) : (if isV v then σ.V v.toInt.toNat else -1).toInt = (-1 : Int32).toInt := by
  by_cases hz : isV v
  · rw [if_pos hz]
    by_cases hw : σ.V v.toInt.toNat = -1
    · rw [hw]
    · exact absurd ⟨hz, hw⟩ q
  · rw [if_neg hz]
theorem s_isHeld (h : RC σ n S R I A P sp) (v : Int32) : wp 2 42 0 0 MX6_isHeld 0 [(0, .ref 3), (1, .int v)] [] (n, S, R, I) (fun w h => h = (n, S, R, I) ∧ w = some (.int (if σ.held v then 1 else 0))) := by
  have hX := h.fx
  first | refine wp_aload_n (pc := 0) dX6_isHeld_0 rfl ?_ | refine wp_aload_nN (pc := 0) dX6_isHeld_0 rfl ?_
  refine wp_iload_n (pc := 1) dX6_isHeld_1 rfl ?_
  refine cv_LevelStore_90 (pc := 2) (s_numV h v) rfl dX6_isHeld_2 (by first | assumption | exact Fx.ok (by assumption) (by decide)) ⟨by decide, by decide, Nat.zero_le _, Nat.zero_le _⟩ (Nat.le_of_ble_eq_true rfl) (fun v h hp => ?_)
  obtain ⟨rfl, rfl⟩ := hp
  refine wp_iconst (pc := 5) (v := -1) dX6_isHeld_5 (by decide) ?_
  refine wp_icmp_eq (pc := 6) (tgt := 13) dX6_isHeld_6 (by decide) (fun hc => ?_) (fun hc => ?_)
  · have hv : ¬ σ.held v := fun q => by rw [if_pos q.1] at hc; exact q.2 (tI_eq hc)
    refine wp_iconst (pc := 13) (v := 0) dX6_isHeld_13 (by decide) ?_
    refine wp_ret (pc := 14) dX6_isHeld_14 rfl (by first | trivial | exact Or.inl rfl | exact Or.inr rfl | assumption) ?_
    first | exact ⟨rfl, by rw [if_neg hv]⟩ | exact ⟨rfl, by rw [if_pos hv]⟩
  · have hv : σ.held v := Decidable.byContradiction fun q => hc (notHeld q)
    refine wp_iconst (pc := 9) (v := 1) dX6_isHeld_9 (by decide) ?_
    refine wp_goto (pc := 10) (tgt := 14) dX6_isHeld_10 (by decide) ?_
    refine wp_ret (pc := 14) dX6_isHeld_14 rfl (by first | trivial | exact Or.inl rfl | exact Or.inr rfl | assumption) ?_
    first | exact ⟨rfl, by rw [if_neg hv]⟩ | exact ⟨rfl, by rw [if_pos hv]⟩
end SM
