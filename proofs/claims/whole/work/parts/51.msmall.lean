/-! THE REFERENCE: writing, views, what is told -/
theorem kC.z {I : ab_II} : kC I (ab_u2 I 39 0 0) := kC.u (by decide)
section M1
variable {σ : St} {n : Nat} {S : ab_SH} {R : ab_RR} {I : ab_II} {SL : Nat → List Nat}
theorem RM.lg (h : RM σ I SL) : mLog σ I := h.1.1
theorem RM.dt (h : RM σ I SL) : mDat σ I := h.1.2.1
theorem RM.sl (h : RM σ I SL) : mSl σ I SL := h.1.2.2.1
theorem RM.fd (h : RM σ I SL) : mFld σ I := h.1.2.2.2.1
theorem RM.jb (h : RM σ I SL) : mJob σ I SL := h.1.2.2.2.2
theorem RM.z (h : RM σ I SL) : RM σ (ab_u2 I 39 0 0) SL := h.keep (C := []) (K := [0]) (fM.uf (by simp)) (fun j q => absurd q List.not_mem_nil) (fun k q => Or.inl (by simpa using q))
theorem RM.setD (h : RM σ I SL) {I' : ab_II} {log : List En} {syn num : Nat} {V : Nat → Int32} (hk : ∀ j, j ∉ [39, 40, 41, 42, 43] → I' j = I j) (hK : ∀ k, k ∉ [1, 2, 6] → I' 39 k = I 39 k) (l1 : I' 39 1 = nI log.length) (l2 : arr3 I' 40 41 42 0 log) (d1 : I' 39 2 = nI syn) (d2 : I' 39 6 = nI num) (d3 : ∀ k, k < 3 → I' 43 k = V k) : RM (σ.D log syn num V) I' SL := by
  refine ⟨⟨⟨l1, l2⟩, ⟨d1, d2, d3⟩, h.sl.keep (fun j q1 q2 => hk j (by simp; omega)), ⟨by rw [hK 16 (by simp)]; exact h.fd.1, fun j q => by rw [hk 52 (by simp)]; exact h.fd.2 j q⟩, ⟨by rw [hK 20 (by simp)]; exact h.jb.1, by rw [hK 30 (by simp)]; exact h.jb.2.1, fun q => (h.jb.2.2 q).keep (fun j q1 q2 => hk j (by simp; omega)) (hK _ (by simp)) (hK _ (by simp)) (hK _ (by simp)) (hK _ (by simp))⟩⟩, fun q => ⟨by rw [hK 23 (by simp)]; exact (h.2 q).1, by rw [hK 31 (by simp)]; exact (h.2 q).2⟩⟩
theorem arr3_push {I I' : ab_II} {a b c off : Nat} {es : List En} {e : En} (h : arr3 I a b c off es) (ha : ∀ i, i < off + es.length → I' a i = I a i) (hb : ∀ i, i < off + es.length → I' b i = I b i) (hc : ∀ i, i < off + es.length → I' c i = I c i) (e1 : I' a (off + es.length) = e.1) (e2 : I' b (off + es.length) = e.2.1) (e3 : I' c (off + es.length) = e.2.2) : arr3 I' a b c off (es ++ [e]) := by
  intro j x hx
  by_cases hj : j < es.length
  · rw [List.getElem?_append_left hj] at hx
    rw [ha _ (by omega), hb _ (by omega), hc _ (by omega)]
    exact h j x hx
  · have hl := (List.getElem?_eq_some_iff.mp hx).1
    simp only [List.length_append, List.length_singleton] at hl
    have hjj : j = es.length := by omega
    subst hjj
    rw [List.getElem?_append_right (Nat.le_refl _)] at hx
    simp at hx
    rw [e1, e2, e3, ← hx]
    exact ⟨rfl, rfl, rfl⟩
theorem s_inI (x : Int32) {lo hi : Int64} {a b : Int} (ha : lo.toInt = a) (hb : hi.toInt = b) : wp 0 0 0 0 MX7_in 0 [(0, .long x.toInt64), (2, .long lo), (4, .long hi)] [] (n, S, R, I) (fun v h => h = (n, S, R, I) ∧ v = some (.int (if a ≤ x.toInt ∧ x.toInt ≤ b then 1 else 0))) := by
  refine wp_post (fun v h hp => ?_) (s_in x.toInt64 lo hi)
  rw [Int32.toInt_toInt64, ha, hb] at hp
  exact hp
theorem l64_0 : (0 : Int64).toInt = 0 := by decide +kernel
theorem l64_1 : (1 : Int64).toInt = 1 := by decide +kernel
theorem l64_2 : (2 : Int64).toInt = 2 := by decide +kernel
theorem l64_3 : (3 : Int64).toInt = 3 := by decide +kernel
theorem l64_500 : (500 : Int64).toInt = 500 := by decide +kernel
theorem l64_999 : (999 : Int64).toInt = 999 := by decide +kernel
theorem l64_1499 : (1499 : Int64).toInt = 1499 := by decide +kernel
theorem l64_V : (100000 : Int64).toInt = 100000 := by decide +kernel
theorem l64_mV : (-100000 : Int64).toInt = -100000 := by decide +kernel
theorem m_write (hX : Fx n S R) (h : RM σ I SL) (hl : σ.log.length ≤ 24) (hn : σ.num ≤ 60000) (k v : Int32) : wp 0 0 0 0 MX7_write 0 [(0, .ref 39), (1, .int k), (2, .int v)] [] (n, S, R, I) (mP I n S R (σ.write k v)) := by
  have z40 : (S 40).2 = 24 := hX.len (by decide)
  have z41 : (S 41).2 = 24 := hX.len (by decide)
  have z42 : (S 42).2 = 24 := hX.len (by decide)
  have e1 : (I 39 1).toInt = σ.log.length := by rw [h.lg.1, tI_n (by omega)]
  have e6 : (I 39 6).toInt = σ.num := by rw [h.dt.2.1, tI_n (by omega)]
  have t6 : (60000 : Int32).toInt = 60000 := by decide +kernel
  have c1 : (I 39 1).toNatClampNeg = σ.log.length := by rw [tI_c]; omega
  have e6' : I 39 6 + 1 = nI (σ.num + 1) := by rw [h.dt.2.1]; exact nI_1 _
  first | refine wp_aload_n (pc := 0) dX7_write_0 rfl ?_ | refine wp_aload_nN (pc := 0) dX7_write_0 rfl ?_
  refine wp_getI (pc := 1) dX7_write_1 fl_LevelStoreModel_93 (by first | assumption | exact Fx.ok (by assumption) (by decide)) rfl ?_
  refine wp_bipush (pc := 4) (v := 24) dX7_write_4 (by decide) ?_
  refine wp_icmp_eq (pc := 6) (tgt := 18) dX7_write_6 (by decide) (fun hc => ?_) (fun hc => ?_)
  · rw [tl_24] at hc
    have hw : σ.write k v = (cFULL, σ) := by unfold St.write; rw [if_pos (by omega)]
    refine wp_ldc (pc := 18) (v := -1000004) dX7_write_18 cn_LevelStoreModel_100 ?_
    refine wp_ret (pc := 20) dX7_write_20 rfl (by first | trivial | exact Or.inl rfl | exact Or.inr rfl | assumption) ?_
    exact mP.id h hw kC.rf
  · rw [tl_24] at hc
    first | refine wp_aload_n (pc := 9) dX7_write_9 rfl ?_ | refine wp_aload_nN (pc := 9) dX7_write_9 rfl ?_
    refine wp_getI (pc := 10) dX7_write_10 fl_LevelStoreModel_96 (by first | assumption | exact Fx.ok (by assumption) (by decide)) rfl ?_
    refine wp_ldc (pc := 13) (v := 60000) dX7_write_13 cn_LevelStoreModel_99 ?_
    refine wp_icmp_ne (pc := 15) (tgt := 21) dX7_write_15 (by decide) (fun hc => ?_) (fun hc => ?_)
    · rw [t6] at hc
      have hw : σ.write k v = (nI (σ.num + 1), σ.D (σ.log ++ [(k, nI (σ.num + 1), v)]) σ.syn (σ.num + 1) σ.V) := by unfold St.write; rw [if_neg (by omega)]
      first | refine wp_aload_n (pc := 21) dX7_write_21 rfl ?_ | refine wp_aload_nN (pc := 21) dX7_write_21 rfl ?_
      refine wp_dup (pc := 22) dX7_write_22 rfl ?_
      refine wp_getI (pc := 23) dX7_write_23 fl_LevelStoreModel_96 (by first | assumption | exact Fx.ok (by assumption) (by decide)) rfl ?_
      refine wp_iconst (pc := 26) (v := 1) dX7_write_26 (by decide) ?_
      refine wp_iadd (pc := 27) dX7_write_27 ?_
      rw [e6']
      refine wp_putI (pc := 28) dX7_write_28 fl_LevelStoreModel_96 (by first | assumption | exact Fx.ok (by assumption) (by decide)) rfl rfl (Or.inl rfl) ?_
      first | refine wp_aload_n (pc := 31) dX7_write_31 rfl ?_ | refine wp_aload_nN (pc := 31) dX7_write_31 rfl ?_
      refine wp_getR (pc := 32) dX7_write_32 fl_LevelStoreModel_7 (by first | assumption | exact Fx.ok (by assumption) (by decide)) rfl (by first | assumption | exact Fx.ref (by assumption) rfl) ?_
      first | refine wp_aload_n (pc := 35) dX7_write_35 rfl ?_ | refine wp_aload_nN (pc := 35) dX7_write_35 rfl ?_
      refine wp_getI (pc := 36) dX7_write_36 fl_LevelStoreModel_93 (by first | assumption | exact Fx.ok (by assumption) (by decide)) rfl ?_
      rw [ab_u2_n _ _ (Or.inr (by decide))]
      refine wp_iload_n (pc := 39) dX7_write_39 rfl ?_
      refine wp_iastore (pc := 40) dX7_write_40 (by first | assumption | exact Fx.ok (by assumption) (by decide)) (by rw [z40]; exact in_I (by omega) (by omega)) ?_
      rw [c1]
      first | refine wp_aload_n (pc := 41) dX7_write_41 rfl ?_ | refine wp_aload_nN (pc := 41) dX7_write_41 rfl ?_
      refine wp_getR (pc := 42) dX7_write_42 fl_LevelStoreModel_13 (by first | assumption | exact Fx.ok (by assumption) (by decide)) rfl (by first | assumption | exact Fx.ref (by assumption) rfl) ?_
      first | refine wp_aload_n (pc := 45) dX7_write_45 rfl ?_ | refine wp_aload_nN (pc := 45) dX7_write_45 rfl ?_
      refine wp_getI (pc := 46) dX7_write_46 fl_LevelStoreModel_93 (by first | assumption | exact Fx.ok (by assumption) (by decide)) rfl ?_
      rw [ab_u2_n _ _ (Or.inl (by decide)), ab_u2_n _ _ (Or.inr (by decide))]
      first | refine wp_aload_n (pc := 49) dX7_write_49 rfl ?_ | refine wp_aload_nN (pc := 49) dX7_write_49 rfl ?_
      refine wp_getI (pc := 50) dX7_write_50 fl_LevelStoreModel_96 (by first | assumption | exact Fx.ok (by assumption) (by decide)) rfl ?_
      rw [ab_u2_n _ _ (Or.inl (by decide)), ab_u2_s]
      refine wp_iastore (pc := 53) dX7_write_53 (by first | assumption | exact Fx.ok (by assumption) (by decide)) (by rw [z41]; exact in_I (by omega) (by omega)) ?_
      rw [c1]
      first | refine wp_aload_n (pc := 54) dX7_write_54 rfl ?_ | refine wp_aload_nN (pc := 54) dX7_write_54 rfl ?_
      refine wp_getR (pc := 55) dX7_write_55 fl_LevelStoreModel_16 (by first | assumption | exact Fx.ok (by assumption) (by decide)) rfl (by first | assumption | exact Fx.ref (by assumption) rfl) ?_
      first | refine wp_aload_n (pc := 58) dX7_write_58 rfl ?_ | refine wp_aload_nN (pc := 58) dX7_write_58 rfl ?_
      refine wp_getI (pc := 59) dX7_write_59 fl_LevelStoreModel_93 (by first | assumption | exact Fx.ok (by assumption) (by decide)) rfl ?_
      rw [ab_u2_n _ _ (Or.inl (by decide)), ab_u2_n _ _ (Or.inl (by decide)), ab_u2_n _ _ (Or.inr (by decide))]
      refine wp_iload_n (pc := 62) dX7_write_62 rfl ?_
      refine wp_iastore (pc := 63) dX7_write_63 (by first | assumption | exact Fx.ok (by assumption) (by decide)) (by rw [z42]; exact in_I (by omega) (by omega)) ?_
      rw [c1]
      first | refine wp_aload_n (pc := 64) dX7_write_64 rfl ?_ | refine wp_aload_nN (pc := 64) dX7_write_64 rfl ?_
      refine wp_dup (pc := 65) dX7_write_65 rfl ?_
      refine wp_getI (pc := 66) dX7_write_66 fl_LevelStoreModel_93 (by first | assumption | exact Fx.ok (by assumption) (by decide)) rfl ?_
      rw [ab_u2_n _ _ (Or.inl (by decide)), ab_u2_n _ _ (Or.inl (by decide)), ab_u2_n _ _ (Or.inl (by decide)), ab_u2_n _ _ (Or.inr (by decide))]
      refine wp_iconst (pc := 69) (v := 1) dX7_write_69 (by decide) ?_
      refine wp_iadd (pc := 70) dX7_write_70 ?_
      rw [show I 39 1 + 1 = nI (σ.log.length + 1) by rw [h.lg.1]; exact nI_1 _]
      refine wp_putI (pc := 71) dX7_write_71 fl_LevelStoreModel_93 (by first | assumption | exact Fx.ok (by assumption) (by decide)) rfl rfl (Or.inl rfl) ?_
      first | refine wp_aload_n (pc := 74) dX7_write_74 rfl ?_ | refine wp_aload_nN (pc := 74) dX7_write_74 rfl ?_
      refine wp_getI (pc := 75) dX7_write_75 fl_LevelStoreModel_96 (by first | assumption | exact Fx.ok (by assumption) (by decide)) rfl ?_
      rw [ab_u2_n _ _ (Or.inr (by decide)), ab_u2_n _ _ (Or.inl (by decide)), ab_u2_n _ _ (Or.inl (by decide)), ab_u2_n _ _ (Or.inl (by decide)), ab_u2_s]
      refine wp_ret (pc := 78) dX7_write_78 rfl (by first | trivial | exact Or.inl rfl | exact Or.inr rfl | assumption) ?_
      rw [hw]
      refine ⟨rfl, _, SL, rfl, h.setD (fun j hj => ?_) (fun i hi => ?_) ?_ (arr3_push h.lg.2 (fun i hi => ?_) (fun i hi => ?_) (fun i hi => ?_) ?_ ?_ ?_) ?_ ?_ (fun i hi => ?_), ((((kC.u (by decide)).tr (kC.u (by decide))).tr (kC.u (by decide))).tr (kC.u (by decide))).tr (kC.u (by decide))⟩
      · simp only [List.mem_cons, List.not_mem_nil, or_false, not_or] at hj
        rw [ab_u2_r _ _ (by omega), ab_u2_r _ _ (by omega), ab_u2_r _ _ (by omega), ab_u2_r _ _ (by omega), ab_u2_r _ _ (by omega)]
      · simp only [List.mem_cons, List.not_mem_nil, or_false, not_or] at hi
        rw [ab_u2_n _ _ (Or.inr (by omega)), ab_u2_n _ _ (Or.inl (by decide)), ab_u2_n _ _ (Or.inl (by decide)), ab_u2_n _ _ (Or.inl (by decide)), ab_u2_n _ _ (Or.inr (by omega))]
      · rw [ab_u2_s, List.length_append]; rfl
      · rw [ab_u2_n _ _ (Or.inl (by decide)), ab_u2_n _ _ (Or.inl (by decide)), ab_u2_n _ _ (Or.inl (by decide)), ab_u2_n _ _ (Or.inr (by omega)), ab_u2_n _ _ (Or.inl (by decide))]
      · rw [ab_u2_n _ _ (Or.inl (by decide)), ab_u2_n _ _ (Or.inl (by decide)), ab_u2_n _ _ (Or.inr (by omega)), ab_u2_n _ _ (Or.inl (by decide)), ab_u2_n _ _ (Or.inl (by decide))]
      · rw [ab_u2_n _ _ (Or.inl (by decide)), ab_u2_n _ _ (Or.inr (by omega)), ab_u2_n _ _ (Or.inl (by decide)), ab_u2_n _ _ (Or.inl (by decide)), ab_u2_n _ _ (Or.inl (by decide))]
      · rw [Nat.zero_add, ab_u2_n _ _ (Or.inl (by decide)), ab_u2_n _ _ (Or.inl (by decide)), ab_u2_n _ _ (Or.inl (by decide)), ab_u2_s]
      · rw [Nat.zero_add, ab_u2_n _ _ (Or.inl (by decide)), ab_u2_n _ _ (Or.inl (by decide)), ab_u2_s]
      · rw [Nat.zero_add, ab_u2_n _ _ (Or.inl (by decide)), ab_u2_s]
      · rw [ab_u2_n _ _ (Or.inr (by decide)), ab_u2_n _ _ (Or.inl (by decide)), ab_u2_n _ _ (Or.inl (by decide)), ab_u2_n _ _ (Or.inl (by decide)), ab_u2_n _ _ (Or.inr (by decide))]; exact h.dt.1
      · rw [ab_u2_n _ _ (Or.inr (by decide)), ab_u2_n _ _ (Or.inl (by decide)), ab_u2_n _ _ (Or.inl (by decide)), ab_u2_n _ _ (Or.inl (by decide)), ab_u2_s]
      · rw [ab_u2_r _ _ (by decide), ab_u2_r _ _ (by decide), ab_u2_r _ _ (by decide), ab_u2_r _ _ (by decide), ab_u2_r _ _ (by decide)]; exact h.dt.2.2 i hi
    · rw [t6] at hc
      have hw : σ.write k v = (cFULL, σ) := by unfold St.write; rw [if_pos (by omega)]
      refine wp_ldc (pc := 18) (v := -1000004) dX7_write_18 cn_LevelStoreModel_100 ?_
      refine wp_ret (pc := 20) dX7_write_20 rfl (by first | trivial | exact Or.inl rfl | exact Or.inr rfl | assumption) ?_
      exact mP.id h hw kC.rf
theorem mP.out {a : Int32 × St} {v : Option Value} {hh : ab_M} (hp : mP I n S R a v hh) : ∃ I' SL, v = some (.int a.1) ∧ hh = (n, S, R, I') ∧ RM a.2 I' SL ∧ kC I I' := by
  obtain ⟨h0, I', SL, h1, h2, h3⟩ := hp
  exact ⟨I', SL, h0, h1, h2, h3⟩
theorem m_put (hX : Fx n S R) (h : RM σ I SL) (hl : σ.log.length ≤ 24) (hn : σ.num ≤ 60000) (k v : Int32) : wp 1 25 0 0 MX7_put 0 [(0, .ref 39), (1, .int k), (2, .int v)] [] (n, S, R, I) (mP I n S R (σ.put k v)) := by
  first | refine wp_aload_n (pc := 0) dX7_put_0 rfl ?_ | refine wp_aload_nN (pc := 0) dX7_put_0 rfl ?_
  refine wp_iconst (pc := 1) (v := 0) dX7_put_1 (by decide) ?_
  refine wp_putI (pc := 2) dX7_put_2 fl_LevelStoreModel_89 (by first | assumption | exact Fx.ok (by assumption) (by decide)) rfl rfl (Or.inl rfl) ?_
  have h1 := h.z
  have hk := kC.z (I := I)
  generalize ab_u2 I 39 0 0 = J at h1 hk ⊢
  refine wp_iload_n (pc := 5) dX7_put_5 rfl ?_
  refine wp_i2l (pc := 6) dX7_put_6 ?_
  refine wp_lconst (pc := 7) (v := 0) dX7_put_7 (by decide) ?_
  refine wp_ldc2 (pc := 8) (v := 999) dX7_put_8 cl2_LevelStoreModel_101 ?_
  refine cv_LevelStoreModel_103 (pc := 11) (s_inI k l64_0 l64_999) rfl dX7_put_11 ⟨by decide, by decide, Nat.zero_le _, Nat.zero_le _⟩ (Nat.le_of_ble_eq_true rfl) (fun v h hp => ?_)
  obtain ⟨rfl, rfl⟩ := hp
  refine wp_if_eq (pc := 14) (tgt := 31) dX7_put_14 (by decide) (fun hc => ?_) (fun hc => ?_)
  · have hb := ite01 hc
    have hw : σ.put k v = (cBAD, σ) := by unfold St.put; rw [if_neg (fun q => hb q.1)]
    refine wp_ldc (pc := 31) (v := -1000002) dX7_put_31 cn_LevelStoreModel_111 ?_
    refine wp_goto (pc := 33) (tgt := 42) dX7_put_33 (by decide) ?_
    refine wp_ret (pc := 42) dX7_put_42 rfl (by first | trivial | exact Or.inl rfl | exact Or.inr rfl | assumption) ?_
    first | exact mP.id h1 hw hk | (rw [hw]; exact ⟨rfl, I', SL', rfl, hr, hk.tr hk'⟩)
  · have hb := ite01n hc
    refine wp_iload_n (pc := 17) dX7_put_17 rfl ?_
    refine wp_i2l (pc := 18) dX7_put_18 ?_
    refine wp_ldc2 (pc := 19) (v := -100000) dX7_put_19 cl2_LevelStoreModel_107 ?_
    refine wp_ldc2 (pc := 22) (v := 100000) dX7_put_22 cl2_LevelStoreModel_109 ?_
    refine cv_LevelStoreModel_103 (pc := 25) (s_inI v l64_mV l64_V) rfl dX7_put_25 ⟨by decide, by decide, Nat.zero_le _, Nat.zero_le _⟩ (Nat.le_of_ble_eq_true rfl) (fun v h hp => ?_)
    obtain ⟨rfl, rfl⟩ := hp
    refine wp_if_ne (pc := 28) (tgt := 36) dX7_put_28 (by decide) (fun hc => ?_) (fun hc => ?_)
    · have hb2 := ite01n hc
      have hw : σ.put k v = σ.write k v := by unfold St.put; rw [if_pos ⟨hb, hb2⟩]
      first | refine wp_aload_n (pc := 36) dX7_put_36 rfl ?_ | refine wp_aload_nN (pc := 36) dX7_put_36 rfl ?_
      refine wp_iload_n (pc := 37) dX7_put_37 rfl ?_
      refine wp_iload_n (pc := 38) dX7_put_38 rfl ?_
      refine cv_LevelStoreModel_112 (pc := 39) (m_write hX h1 hl hn k v) rfl dX7_put_39 (by first | assumption | exact Fx.ok (by assumption) (by decide)) ⟨by decide, by decide, Nat.zero_le _, Nat.zero_le _⟩ (Nat.le_of_ble_eq_true rfl) (fun v h hp => ?_)
      obtain ⟨I', SL', rfl, rfl, hr, hk'⟩ := hp.out
      refine wp_ret (pc := 42) dX7_put_42 rfl (by first | trivial | exact Or.inl rfl | exact Or.inr rfl | assumption) ?_
      first | exact mP.id h1 hw hk | (rw [hw]; exact ⟨rfl, I', SL', rfl, hr, hk.tr hk'⟩)
    · have hb2 := ite01 hc
      have hw : σ.put k v = (cBAD, σ) := by unfold St.put; rw [if_neg (fun q => hb2 q.2)]
      refine wp_ldc (pc := 31) (v := -1000002) dX7_put_31 cn_LevelStoreModel_111 ?_
      refine wp_goto (pc := 33) (tgt := 42) dX7_put_33 (by decide) ?_
      refine wp_ret (pc := 42) dX7_put_42 rfl (by first | trivial | exact Or.inl rfl | exact Or.inr rfl | assumption) ?_
      first | exact mP.id h1 hw hk | (rw [hw]; exact ⟨rfl, I', SL', rfl, hr, hk.tr hk'⟩)
theorem m_drop (hX : Fx n S R) (h : RM σ I SL) (hl : σ.log.length ≤ 24) (hn : σ.num ≤ 60000) (k : Int32) : wp 1 25 0 0 MX7_drop 0 [(0, .ref 39), (1, .int k)] [] (n, S, R, I) (mP I n S R (σ.drop k)) := by
  first | refine wp_aload_n (pc := 0) dX7_drop_0 rfl ?_ | refine wp_aload_nN (pc := 0) dX7_drop_0 rfl ?_
  refine wp_iconst (pc := 1) (v := 0) dX7_drop_1 (by decide) ?_
  refine wp_putI (pc := 2) dX7_drop_2 fl_LevelStoreModel_89 (by first | assumption | exact Fx.ok (by assumption) (by decide)) rfl rfl (Or.inl rfl) ?_
  have h1 := h.z
  have hk := kC.z (I := I)
  generalize ab_u2 I 39 0 0 = J at h1 hk ⊢
  refine wp_iload_n (pc := 5) dX7_drop_5 rfl ?_
  refine wp_i2l (pc := 6) dX7_drop_6 ?_
  refine wp_lconst (pc := 7) (v := 0) dX7_drop_7 (by decide) ?_
  refine wp_ldc2 (pc := 8) (v := 999) dX7_drop_8 cl2_LevelStoreModel_101 ?_
  refine cv_LevelStoreModel_103 (pc := 11) (s_inI k l64_0 l64_999) rfl dX7_drop_11 ⟨by decide, by decide, Nat.zero_le _, Nat.zero_le _⟩ (Nat.le_of_ble_eq_true rfl) (fun v h hp => ?_)
  obtain ⟨rfl, rfl⟩ := hp
  refine wp_if_ne (pc := 14) (tgt := 22) dX7_drop_14 (by decide) (fun hc => ?_) (fun hc => ?_)
  · have hb := ite01n hc
    have hw : σ.drop k = σ.write k cNONE := by unfold St.drop; rw [if_pos hb]
    first | refine wp_aload_n (pc := 22) dX7_drop_22 rfl ?_ | refine wp_aload_nN (pc := 22) dX7_drop_22 rfl ?_
    refine wp_iload_n (pc := 23) dX7_drop_23 rfl ?_
    refine wp_ldc (pc := 24) (v := -1000009) dX7_drop_24 cn_LevelStoreModel_116 ?_
    refine cv_LevelStoreModel_112 (pc := 26) (m_write hX h1 hl hn k cNONE) rfl dX7_drop_26 (by first | assumption | exact Fx.ok (by assumption) (by decide)) ⟨by decide, by decide, Nat.zero_le _, Nat.zero_le _⟩ (Nat.le_of_ble_eq_true rfl) (fun v h hp => ?_)
    obtain ⟨I', SL', rfl, rfl, hr, hk'⟩ := hp.out
    refine wp_ret (pc := 29) dX7_drop_29 rfl (by first | trivial | exact Or.inl rfl | exact Or.inr rfl | assumption) ?_
    first | exact mP.id h1 hw hk | (rw [hw]; exact ⟨rfl, I', SL', rfl, hr, hk.tr hk'⟩)
  · have hb := ite01 hc
    have hw : σ.drop k = (cBAD, σ) := by unfold St.drop; rw [if_neg hb]
    refine wp_ldc (pc := 17) (v := -1000002) dX7_drop_17 cn_LevelStoreModel_111 ?_
    refine wp_goto (pc := 19) (tgt := 29) dX7_drop_19 (by decide) ?_
    refine wp_ret (pc := 29) dX7_drop_29 rfl (by first | trivial | exact Or.inl rfl | exact Or.inr rfl | assumption) ?_
    first | exact mP.id h1 hw hk | (rw [hw]; exact ⟨rfl, I', SL', rfl, hr, hk.tr hk'⟩)
theorem m_sync (hX : Fx n S R) (h : RM σ I SL) (hs : σ.syn ≤ σ.log.length) : wp 0 0 0 0 MX7_sync 0 [(0, .ref 39)] [] (n, S, R, I) (mP I n S R σ.sync) := by
  first | refine wp_aload_n (pc := 0) dX7_sync_0 rfl ?_ | refine wp_aload_nN (pc := 0) dX7_sync_0 rfl ?_
  refine wp_iconst (pc := 1) (v := 0) dX7_sync_1 (by decide) ?_
  refine wp_putI (pc := 2) dX7_sync_2 fl_LevelStoreModel_89 (by first | assumption | exact Fx.ok (by assumption) (by decide)) rfl rfl (Or.inl rfl) ?_
  have h1 := h.z
  have hk := kC.z (I := I)
  generalize ab_u2 I 39 0 0 = J at h1 hk ⊢
  first | refine wp_aload_n (pc := 5) dX7_sync_5 rfl ?_ | refine wp_aload_nN (pc := 5) dX7_sync_5 rfl ?_
  refine wp_getI (pc := 6) dX7_sync_6 fl_LevelStoreModel_93 (by first | assumption | exact Fx.ok (by assumption) (by decide)) rfl ?_
  first | refine wp_aload_n (pc := 9) dX7_sync_9 rfl ?_ | refine wp_aload_nN (pc := 9) dX7_sync_9 rfl ?_
  refine wp_getI (pc := 10) dX7_sync_10 fl_LevelStoreModel_117 (by first | assumption | exact Fx.ok (by assumption) (by decide)) rfl ?_
  refine wp_isub (pc := 13) dX7_sync_13 ?_
  rw [h1.lg.1, h1.dt.1, pk_sub hs]
  refine wp_istore_n (pc := 14) dX7_sync_14 (by decide) rfl ?_
  first | refine wp_aload_n (pc := 15) dX7_sync_15 rfl ?_ | refine wp_aload_nN (pc := 15) dX7_sync_15 rfl ?_
  first | refine wp_aload_n (pc := 16) dX7_sync_16 rfl ?_ | refine wp_aload_nN (pc := 16) dX7_sync_16 rfl ?_
  refine wp_getI (pc := 17) dX7_sync_17 fl_LevelStoreModel_93 (by first | assumption | exact Fx.ok (by assumption) (by decide)) rfl ?_
  rw [h1.lg.1]
  refine wp_putI (pc := 20) dX7_sync_20 fl_LevelStoreModel_117 (by first | assumption | exact Fx.ok (by assumption) (by decide)) rfl rfl (Or.inl rfl) ?_
  refine wp_iload_n (pc := 23) dX7_sync_23 rfl ?_
  refine wp_ret (pc := 24) dX7_sync_24 rfl (by first | trivial | exact Or.inl rfl | exact Or.inr rfl | assumption) ?_
  refine ⟨rfl, _, SL, rfl, h1.setD (fun j hj => ?_) (fun i hi => ?_) ?_ ?_ ?_ ?_ (fun i hi => ?_), hk.tr (kC.u (by decide))⟩
  · simp only [List.mem_cons, List.not_mem_nil, or_false, not_or] at hj
    rw [ab_u2_r _ _ (by omega)]
  · simp only [List.mem_cons, List.not_mem_nil, or_false, not_or] at hi
    rw [ab_u2_n _ _ (Or.inr (by omega))]
  · rw [ab_u2_n _ _ (Or.inr (by decide))]; exact h1.lg.1
  · exact h1.lg.2.keep (ab_u2_r _ _ (by decide)) (ab_u2_r _ _ (by decide)) (ab_u2_r _ _ (by decide))
  · rw [ab_u2_s]
  · rw [ab_u2_n _ _ (Or.inr (by decide))]; exact h1.dt.2.1
  · rw [ab_u2_r _ _ (by decide)]; exact h1.dt.2.2 i hi
theorem isV_c {v : Int32} (h : 0 ≤ v.toInt ∧ v.toInt ≤ 2) : v.toNatClampNeg = v.toInt.toNat ∧ v.toInt.toNat < 3 := ⟨rfl, by omega⟩
/-- a view is none, or a number -/
def vOK (V : Nat → Int32) : Prop := ∀ k, k < 3 → V k = -1 ∨ 0 ≤ (V k).toInt
theorem vOK.lt {V : Nat → Int32} (h : vOK V) {k : Nat} (hk : k < 3) : (V k).toInt < 0 ↔ V k = -1 := by
  constructor
  · intro q
    rcases h k hk with e | e
    · exact e
    · omega
  · intro q; rw [q]; decide
theorem m_noView (hX : Fx n S R) (h : RM σ I SL) (hV : vOK σ.V) (v : Int32) : wp 1 25 0 0 MX7_noView 0 [(0, .ref 39), (1, .int v)] [] (n, S, R, I) (fun w h => h = (n, S, R, I) ∧ w = some (.int (if σ.held v then 0 else 1))) := by
  have z : (S 43).2 = 3 := hX.len (by decide)
  refine wp_iload_n (pc := 0) dX7_noView_0 rfl ?_
  refine wp_i2l (pc := 1) dX7_noView_1 ?_
  refine wp_lconst (pc := 2) (v := 0) dX7_noView_2 (by decide) ?_
  refine wp_ldc2 (pc := 3) (v := 2) dX7_noView_3 cl2_LevelStoreModel_126 ?_
  refine cv_LevelStoreModel_103 (pc := 6) (s_inI v l64_0 l64_2) rfl dX7_noView_6 ⟨by decide, by decide, Nat.zero_le _, Nat.zero_le _⟩ (Nat.le_of_ble_eq_true rfl) (fun v h hp => ?_)
  obtain ⟨rfl, rfl⟩ := hp
  refine wp_if_eq (pc := 9) (tgt := 21) dX7_noView_9 (by decide) (fun hc => ?_) (fun hc => ?_)
  · have hb := ite01 hc
    have hh : ¬ σ.held v := fun q => hb ⟨q.1.1, by have := q.1.2; omega⟩
    refine wp_iconst (pc := 21) (v := 1) dX7_noView_21 (by decide) ?_
    refine wp_goto (pc := 22) (tgt := 26) dX7_noView_22 (by decide) ?_
    refine wp_ret (pc := 26) dX7_noView_26 rfl (by first | trivial | exact Or.inl rfl | exact Or.inr rfl | assumption) ?_
    first | exact ⟨rfl, by rw [if_pos hh]⟩ | exact ⟨rfl, by rw [if_neg hh]⟩
  · have hb := ite01n hc
    first | refine wp_aload_n (pc := 12) dX7_noView_12 rfl ?_ | refine wp_aload_nN (pc := 12) dX7_noView_12 rfl ?_
    refine wp_getR (pc := 13) dX7_noView_13 fl_LevelStoreModel_19 (by first | assumption | exact Fx.ok (by assumption) (by decide)) rfl (by first | assumption | exact Fx.ref (by assumption) rfl) ?_
    refine wp_iload_n (pc := 16) dX7_noView_16 rfl ?_
    refine wp_iaload (pc := 17) dX7_noView_17 (by first | assumption | exact Fx.ok (by assumption) (by decide)) (in_I (by omega) (by rw [z]; omega)) ?_
    rw [tI_c, h.dt.2.2 _ (isV_c hb).2]
    refine wp_if_ge (pc := 18) (tgt := 25) dX7_noView_18 (by decide) (fun hc => ?_) (fun hc => ?_)
    · have hh : σ.held v := ⟨⟨hb.1, by omega⟩, fun q => by rw [q] at hc; exact absurd hc (by decide)⟩
      refine wp_iconst (pc := 25) (v := 0) dX7_noView_25 (by decide) ?_
      refine wp_ret (pc := 26) dX7_noView_26 rfl (by first | trivial | exact Or.inl rfl | exact Or.inr rfl | assumption) ?_
      first | exact ⟨rfl, by rw [if_pos hh]⟩ | exact ⟨rfl, by rw [if_neg hh]⟩
    · have hh : ¬ σ.held v := fun q => q.2 ((hV.lt (isV_c hb).2).mp hc)
      refine wp_iconst (pc := 21) (v := 1) dX7_noView_21 (by decide) ?_
      refine wp_goto (pc := 22) (tgt := 26) dX7_noView_22 (by decide) ?_
      refine wp_ret (pc := 26) dX7_noView_26 rfl (by first | trivial | exact Or.inl rfl | exact Or.inr rfl | assumption) ?_
      first | exact ⟨rfl, by rw [if_pos hh]⟩ | exact ⟨rfl, by rw [if_neg hh]⟩
theorem RM.setV (h : RM σ I SL) {v : Int32} (hb : 0 ≤ v.toInt ∧ v.toInt ≤ 2) (x : Int32) : RM (σ.D σ.log σ.syn σ.num (va_up σ.V v.toInt.toNat x)) (ab_u2 I 43 v.toInt.toNat x) SL := by
  refine h.setD (fun j hj => ?_) (fun i hi => ?_) ?_ ?_ ?_ ?_ (fun i hi => ?_)
  · simp only [List.mem_cons, List.not_mem_nil, or_false, not_or] at hj
    rw [ab_u2_r _ _ (by omega)]
  · rw [ab_u2_r _ _ (by decide)]
  · rw [ab_u2_r _ _ (by decide)]; exact h.lg.1
  · exact h.lg.2.keep (ab_u2_r _ _ (by decide)) (ab_u2_r _ _ (by decide)) (ab_u2_r _ _ (by decide))
  · rw [ab_u2_r _ _ (by decide)]; exact h.dt.1
  · rw [ab_u2_r _ _ (by decide)]; exact h.dt.2.1
  · by_cases q : i = v.toInt.toNat
    · rw [q, ab_u2_s, up_at]
    · rw [ab_u2_n _ _ (Or.inr q), up_ne q]; exact h.dt.2.2 i hi
theorem m_hold (hX : Fx n S R) (h : RM σ I SL) (hV : vOK σ.V) (v : Int32) : wp 1 25 0 0 MX7_hold 0 [(0, .ref 39), (1, .int v)] [] (n, S, R, I) (mP I n S R (σ.hold v)) := by
  have z : (S 43).2 = 3 := hX.len (by decide)
  first | refine wp_aload_n (pc := 0) dX7_hold_0 rfl ?_ | refine wp_aload_nN (pc := 0) dX7_hold_0 rfl ?_
  refine wp_iconst (pc := 1) (v := 0) dX7_hold_1 (by decide) ?_
  refine wp_putI (pc := 2) dX7_hold_2 fl_LevelStoreModel_89 (by first | assumption | exact Fx.ok (by assumption) (by decide)) rfl rfl (Or.inl rfl) ?_
  have h1 := h.z
  have hk := kC.z (I := I)
  generalize ab_u2 I 39 0 0 = J at h1 hk ⊢
  refine wp_iload_n (pc := 5) dX7_hold_5 rfl ?_
  refine wp_i2l (pc := 6) dX7_hold_6 ?_
  refine wp_lconst (pc := 7) (v := 0) dX7_hold_7 (by decide) ?_
  refine wp_ldc2 (pc := 8) (v := 2) dX7_hold_8 cl2_LevelStoreModel_126 ?_
  refine cv_LevelStoreModel_103 (pc := 11) (s_inI v l64_0 l64_2) rfl dX7_hold_11 ⟨by decide, by decide, Nat.zero_le _, Nat.zero_le _⟩ (Nat.le_of_ble_eq_true rfl) (fun v h hp => ?_)
  obtain ⟨rfl, rfl⟩ := hp
  refine wp_if_ne (pc := 14) (tgt := 20) dX7_hold_14 (by decide) (fun hc => ?_) (fun hc => ?_)
  · have hb := ite01n hc
    have hiv : isV v := ⟨hb.1, by omega⟩
    first | refine wp_aload_n (pc := 20) dX7_hold_20 rfl ?_ | refine wp_aload_nN (pc := 20) dX7_hold_20 rfl ?_
    refine wp_getR (pc := 21) dX7_hold_21 fl_LevelStoreModel_19 (by first | assumption | exact Fx.ok (by assumption) (by decide)) rfl (by first | assumption | exact Fx.ref (by assumption) rfl) ?_
    refine wp_iload_n (pc := 24) dX7_hold_24 rfl ?_
    refine wp_iaload (pc := 25) dX7_hold_25 (by first | assumption | exact Fx.ok (by assumption) (by decide)) (in_I (by omega) (by rw [z]; omega)) ?_
    rw [tI_c, h1.dt.2.2 _ (isV_c hb).2]
    refine wp_if_lt (pc := 26) (tgt := 32) dX7_hold_26 (by decide) (fun hc => ?_) (fun hc => ?_)
    · have hn : σ.V v.toInt.toNat = -1 := (hV.lt (isV_c hb).2).mp hc
      first | refine wp_aload_n (pc := 32) dX7_hold_32 rfl ?_ | refine wp_aload_nN (pc := 32) dX7_hold_32 rfl ?_
      refine wp_getR (pc := 33) dX7_hold_33 fl_LevelStoreModel_19 (by first | assumption | exact Fx.ok (by assumption) (by decide)) rfl (by first | assumption | exact Fx.ref (by assumption) rfl) ?_
      refine wp_iload_n (pc := 36) dX7_hold_36 rfl ?_
      first | refine wp_aload_n (pc := 37) dX7_hold_37 rfl ?_ | refine wp_aload_nN (pc := 37) dX7_hold_37 rfl ?_
      refine wp_getI (pc := 38) dX7_hold_38 fl_LevelStoreModel_96 (by first | assumption | exact Fx.ok (by assumption) (by decide)) rfl ?_
      refine wp_iastore (pc := 41) dX7_hold_41 (by first | assumption | exact Fx.ok (by assumption) (by decide)) (in_I (by omega) (by rw [z]; omega)) ?_
      rw [tI_c, h1.dt.2.1]
      first | refine wp_aload_n (pc := 42) dX7_hold_42 rfl ?_ | refine wp_aload_nN (pc := 42) dX7_hold_42 rfl ?_
      refine wp_getI (pc := 43) dX7_hold_43 fl_LevelStoreModel_96 (by first | assumption | exact Fx.ok (by assumption) (by decide)) rfl ?_
      rw [ab_u2_r _ _ (by decide), h1.dt.2.1]
      refine wp_ret (pc := 46) dX7_hold_46 rfl (by first | trivial | exact Or.inl rfl | exact Or.inr rfl | assumption) ?_
      have hw : σ.hold v = (nI σ.num, σ.D σ.log σ.syn σ.num (va_up σ.V v.toInt.toNat (nI σ.num))) := by unfold St.hold; rw [if_pos hiv, if_neg (fun q => q hn)]
      rw [hw]
      exact ⟨rfl, _, SL, rfl, h1.setV hb _, hk.tr (kC.u (by decide))⟩
    · have hn : σ.V v.toInt.toNat ≠ -1 := fun q => by rw [q] at hc; exact absurd hc (by decide)
      refine wp_ldc (pc := 29) (v := -1000003) dX7_hold_29 cn_LevelStoreModel_136 ?_
      refine wp_ret (pc := 31) dX7_hold_31 rfl (by first | trivial | exact Or.inl rfl | exact Or.inr rfl | assumption) ?_
      exact mP.id h1 (by unfold St.hold; rw [if_pos hiv, if_pos hn]) hk
  · have hb := ite01 hc
    refine wp_ldc (pc := 17) (v := -1000001) dX7_hold_17 cn_LevelStoreModel_135 ?_
    refine wp_ret (pc := 19) dX7_hold_19 rfl (by first | trivial | exact Or.inl rfl | exact Or.inr rfl | assumption) ?_
    exact mP.id h1 (by unfold St.hold; rw [if_neg (fun q => hb ⟨q.1, by have := q.2; omega⟩)]) hk
theorem m_release (hX : Fx n S R) (h : RM σ I SL) (hV : vOK σ.V) (v : Int32) : wp 2 46 0 0 MX7_release 0 [(0, .ref 39), (1, .int v)] [] (n, S, R, I) (mP I n S R (σ.release v)) := by
  have z : (S 43).2 = 3 := hX.len (by decide)
  first | refine wp_aload_n (pc := 0) dX7_release_0 rfl ?_ | refine wp_aload_nN (pc := 0) dX7_release_0 rfl ?_
  refine wp_iconst (pc := 1) (v := 0) dX7_release_1 (by decide) ?_
  refine wp_putI (pc := 2) dX7_release_2 fl_LevelStoreModel_89 (by first | assumption | exact Fx.ok (by assumption) (by decide)) rfl rfl (Or.inl rfl) ?_
  have h1 := h.z
  have hk := kC.z (I := I)
  generalize ab_u2 I 39 0 0 = J at h1 hk ⊢
  first | refine wp_aload_n (pc := 5) dX7_release_5 rfl ?_ | refine wp_aload_nN (pc := 5) dX7_release_5 rfl ?_
  refine wp_iload_n (pc := 6) dX7_release_6 rfl ?_
  refine cv_LevelStoreModel_131 (pc := 7) (m_noView hX h1 hV v) rfl dX7_release_7 (by first | assumption | exact Fx.ok (by assumption) (by decide)) ⟨by decide, by decide, Nat.zero_le _, Nat.zero_le _⟩ (Nat.le_of_ble_eq_true rfl) (fun v h hp => ?_)
  obtain ⟨rfl, rfl⟩ := hp
  refine wp_if_eq (pc := 10) (tgt := 16) dX7_release_10 (by decide) (fun hc => ?_) (fun hc => ?_)
  · have hh : σ.held v := Decidable.byContradiction fun q => by rw [if_neg q] at hc; exact absurd hc (by decide)
    have hb : 0 ≤ v.toInt ∧ v.toInt ≤ 2 := ⟨hh.1.1, by have := hh.1.2; omega⟩
    first | refine wp_aload_n (pc := 16) dX7_release_16 rfl ?_ | refine wp_aload_nN (pc := 16) dX7_release_16 rfl ?_
    refine wp_getR (pc := 17) dX7_release_17 fl_LevelStoreModel_19 (by first | assumption | exact Fx.ok (by assumption) (by decide)) rfl (by first | assumption | exact Fx.ref (by assumption) rfl) ?_
    refine wp_iload_n (pc := 20) dX7_release_20 rfl ?_
    refine wp_iaload (pc := 21) dX7_release_21 (by first | assumption | exact Fx.ok (by assumption) (by decide)) (in_I (by omega) (by rw [z]; omega)) ?_
    rw [tI_c, h1.dt.2.2 _ (isV_c hb).2]
    refine wp_istore_n (pc := 22) dX7_release_22 (by decide) rfl ?_
    first | refine wp_aload_n (pc := 23) dX7_release_23 rfl ?_ | refine wp_aload_nN (pc := 23) dX7_release_23 rfl ?_
    refine wp_getR (pc := 24) dX7_release_24 fl_LevelStoreModel_19 (by first | assumption | exact Fx.ok (by assumption) (by decide)) rfl (by first | assumption | exact Fx.ref (by assumption) rfl) ?_
    refine wp_iload_n (pc := 27) dX7_release_27 rfl ?_
    refine wp_iconst (pc := 28) (v := -1) dX7_release_28 (by decide) ?_
    refine wp_iastore (pc := 29) dX7_release_29 (by first | assumption | exact Fx.ok (by assumption) (by decide)) (in_I (by omega) (by rw [z]; omega)) ?_
    rw [tI_c]
    refine wp_iload_n (pc := 30) dX7_release_30 rfl ?_
    refine wp_ret (pc := 31) dX7_release_31 rfl (by first | trivial | exact Or.inl rfl | exact Or.inr rfl | assumption) ?_
    have hw : σ.release v = (σ.V v.toInt.toNat, σ.D σ.log σ.syn σ.num (va_up σ.V v.toInt.toNat (-1))) := by unfold St.release; rw [if_pos hh]
    rw [hw]
    exact ⟨rfl, _, SL, rfl, h1.setV hb _, hk.tr (kC.u (by decide))⟩
  · have hh : ¬ σ.held v := fun q => by rw [if_pos q] at hc; exact hc rfl
    refine wp_ldc (pc := 13) (v := -1000001) dX7_release_13 cn_LevelStoreModel_135 ?_
    refine wp_ret (pc := 15) dX7_release_15 rfl (by first | trivial | exact Or.inl rfl | exact Or.inr rfl | assumption) ?_
    exact mP.id h1 (by unfold St.release; rw [if_neg hh]) hk
theorem arr3.at {a b c off : Nat} {es : List En} (h : arr3 I a b c off es) {j : Nat} (hj : j < es.length) : I a (off + j) = (lfn es j).1 ∧ I b (off + j) = (lfn es j).2.1 ∧ I c (off + j) = (lfn es j).2.2 := h j _ (by rw [List.getElem?_eq_getElem hj]; unfold lfn; rw [List.getD_eq_getElem?_getD, List.getElem?_eq_getElem hj]; rfl)
theorem m_log (hX : Fx n S R) (h : RM σ I SL) (hl : σ.log.length ≤ 24) (k w : Int32) : wp 1 25 0 0 MX7_log 0 [(0, .ref 39), (1, .int k), (2, .int w)] [] (n, S, R, I) (mP I n S R (σ.logA k w)) := by
  have z40 : (S 40).2 = 24 := hX.len (by decide)
  have z41 : (S 41).2 = 24 := hX.len (by decide)
  have z42 : (S 42).2 = 24 := hX.len (by decide)
  first | refine wp_aload_n (pc := 0) dX7_log_0 rfl ?_ | refine wp_aload_nN (pc := 0) dX7_log_0 rfl ?_
  refine wp_iconst (pc := 1) (v := 0) dX7_log_1 (by decide) ?_
  refine wp_putI (pc := 2) dX7_log_2 fl_LevelStoreModel_89 (by first | assumption | exact Fx.ok (by assumption) (by decide)) rfl rfl (Or.inl rfl) ?_
  have h1 := h.z
  have hk := kC.z (I := I)
  generalize ab_u2 I 39 0 0 = J at h1 hk ⊢
  have e1 : (J 39 1).toInt = σ.log.length := by rw [h1.lg.1, tI_n (by omega)]
  have e2 : (J 39 1 - 1).toInt64.toInt = (σ.log.length : Int) - 1 := by rw [Int32.toInt_toInt64, tI_sub (by rw [e1, tl_1]; omega) (by rw [e1, tl_1]; omega), e1, tl_1]
  refine wp_iload_n (pc := 5) dX7_log_5 rfl ?_
  refine wp_i2l (pc := 6) dX7_log_6 ?_
  refine wp_lconst (pc := 7) (v := 0) dX7_log_7 (by decide) ?_
  first | refine wp_aload_n (pc := 8) dX7_log_8 rfl ?_ | refine wp_aload_nN (pc := 8) dX7_log_8 rfl ?_
  refine wp_getI (pc := 9) dX7_log_9 fl_LevelStoreModel_93 (by first | assumption | exact Fx.ok (by assumption) (by decide)) rfl ?_
  refine wp_iconst (pc := 12) (v := 1) dX7_log_12 (by decide) ?_
  refine wp_isub (pc := 13) dX7_log_13 ?_
  refine wp_i2l (pc := 14) dX7_log_14 ?_
  refine cv_LevelStoreModel_103 (pc := 15) (s_inI k l64_0 e2) rfl dX7_log_15 ⟨by decide, by decide, Nat.zero_le _, Nat.zero_le _⟩ (Nat.le_of_ble_eq_true rfl) (fun v h hp => ?_)
  obtain ⟨rfl, rfl⟩ := hp
  refine wp_if_eq (pc := 18) (tgt := 33) dX7_log_18 (by decide) (fun hc => ?_) (fun hc => ?_)
  · have hb := ite01 hc
    have hw : toldE σ.log k w = cBAD := by unfold toldE; rw [if_neg (by omega)]
    refine wp_ldc (pc := 33) (v := -1000002) dX7_log_33 cn_LevelStoreModel_111 ?_
    refine wp_ret (pc := 35) dX7_log_35 rfl (by first | trivial | exact Or.inl rfl | exact Or.inr rfl | assumption) ?_
    exact mP.id h1 (by unfold St.logA; rw [hw]) hk
  · have hb := ite01n hc
    have hat := h1.lg.2.at (j := k.toInt.toNat) (by omega)
    rw [Nat.zero_add] at hat
    have hin : 0 ≤ k.toInt ∧ k.toInt < σ.log.length := by omega
    refine wp_iload_n (pc := 21) dX7_log_21 rfl ?_
    refine wp_i2l (pc := 22) dX7_log_22 ?_
    refine wp_lconst (pc := 23) (v := 0) dX7_log_23 (by decide) ?_
    refine wp_ldc2 (pc := 24) (v := 2) dX7_log_24 cl2_LevelStoreModel_126 ?_
    refine cv_LevelStoreModel_103 (pc := 27) (s_inI w l64_0 l64_2) rfl dX7_log_27 ⟨by decide, by decide, Nat.zero_le _, Nat.zero_le _⟩ (Nat.le_of_ble_eq_true rfl) (fun v h hp => ?_)
    obtain ⟨rfl, rfl⟩ := hp
    refine wp_if_ne (pc := 30) (tgt := 36) dX7_log_30 (by decide) (fun hc => ?_) (fun hc => ?_)
    · have hb2 := ite01n hc
      refine wp_iload_n (pc := 36) dX7_log_36 rfl ?_
      refine wp_if_ne (pc := 37) (tgt := 49) dX7_log_37 (by decide) (fun hc => ?_) (fun hc => ?_)
      · skip
        refine wp_iload_n (pc := 49) dX7_log_49 rfl ?_
        refine wp_iconst (pc := 50) (v := 1) dX7_log_50 (by decide) ?_
        refine wp_icmp_ne (pc := 51) (tgt := 63) dX7_log_51 (by decide) (fun hc => ?_) (fun hc => ?_)
        · rw [tl_1] at hc
          first | refine wp_aload_n (pc := 63) dX7_log_63 rfl ?_ | refine wp_aload_nN (pc := 63) dX7_log_63 rfl ?_
          refine wp_getR (pc := 64) dX7_log_64 fl_LevelStoreModel_16 (by first | assumption | exact Fx.ok (by assumption) (by decide)) rfl (by first | assumption | exact Fx.ref (by assumption) rfl) ?_
          refine wp_iload_n (pc := 67) dX7_log_67 rfl ?_
          refine wp_iaload (pc := 68) dX7_log_68 (by first | assumption | exact Fx.ok (by assumption) (by decide)) (in_I (by omega) (by rw [z42]; omega)) ?_
          refine wp_ret (pc := 69) dX7_log_69 rfl (by first | trivial | exact Or.inl rfl | exact Or.inr rfl | assumption) ?_
          first
          | exact mP.id h1 (by unfold St.logA toldE; rw [if_pos hin, if_pos (by omega)]) hk
          | exact mP.id h1 (by unfold St.logA toldE; rw [if_pos hin, if_neg (by omega), if_pos (by omega)]) hk
          | (rw [tI_c, hat.2.2]; exact mP.id h1 (by unfold St.logA toldE; rw [if_pos hin, if_neg (by omega), if_neg (by omega), if_pos (by omega)]) hk)
        · rw [tl_1] at hc
          first | refine wp_aload_n (pc := 54) dX7_log_54 rfl ?_ | refine wp_aload_nN (pc := 54) dX7_log_54 rfl ?_
          refine wp_getR (pc := 55) dX7_log_55 fl_LevelStoreModel_13 (by first | assumption | exact Fx.ok (by assumption) (by decide)) rfl (by first | assumption | exact Fx.ref (by assumption) rfl) ?_
          refine wp_iload_n (pc := 58) dX7_log_58 rfl ?_
          refine wp_iaload (pc := 59) dX7_log_59 (by first | assumption | exact Fx.ok (by assumption) (by decide)) (in_I (by omega) (by rw [z41]; omega)) ?_
          rw [tI_c, hat.2.1]
          refine wp_goto (pc := 60) (tgt := 69) dX7_log_60 (by decide) ?_
          refine wp_ret (pc := 69) dX7_log_69 rfl (by first | trivial | exact Or.inl rfl | exact Or.inr rfl | assumption) ?_
          first
          | exact mP.id h1 (by unfold St.logA toldE; rw [if_pos hin, if_pos (by omega)]) hk
          | exact mP.id h1 (by unfold St.logA toldE; rw [if_pos hin, if_neg (by omega), if_pos (by omega)]) hk
          | (rw [tI_c, hat.2.2]; exact mP.id h1 (by unfold St.logA toldE; rw [if_pos hin, if_neg (by omega), if_neg (by omega), if_pos (by omega)]) hk)
      · skip
        first | refine wp_aload_n (pc := 40) dX7_log_40 rfl ?_ | refine wp_aload_nN (pc := 40) dX7_log_40 rfl ?_
        refine wp_getR (pc := 41) dX7_log_41 fl_LevelStoreModel_7 (by first | assumption | exact Fx.ok (by assumption) (by decide)) rfl (by first | assumption | exact Fx.ref (by assumption) rfl) ?_
        refine wp_iload_n (pc := 44) dX7_log_44 rfl ?_
        refine wp_iaload (pc := 45) dX7_log_45 (by first | assumption | exact Fx.ok (by assumption) (by decide)) (in_I (by omega) (by rw [z40]; omega)) ?_
        rw [tI_c, hat.1]
        refine wp_goto (pc := 46) (tgt := 69) dX7_log_46 (by decide) ?_
        refine wp_ret (pc := 69) dX7_log_69 rfl (by first | trivial | exact Or.inl rfl | exact Or.inr rfl | assumption) ?_
        first
        | exact mP.id h1 (by unfold St.logA toldE; rw [if_pos hin, if_pos (by omega)]) hk
        | exact mP.id h1 (by unfold St.logA toldE; rw [if_pos hin, if_neg (by omega), if_pos (by omega)]) hk
        | (rw [tI_c, hat.2.2]; exact mP.id h1 (by unfold St.logA toldE; rw [if_pos hin, if_neg (by omega), if_neg (by omega), if_pos (by omega)]) hk)
    · have hb2 := ite01 hc
      have hw : toldE σ.log k w = cBAD := by unfold toldE; rw [if_pos hin, if_neg (by omega), if_neg (by omega), if_neg (by omega)]
      refine wp_ldc (pc := 33) (v := -1000002) dX7_log_33 cn_LevelStoreModel_111 ?_
      refine wp_ret (pc := 35) dX7_log_35 rfl (by first | trivial | exact Or.inl rfl | exact Or.inr rfl | assumption) ?_
      exact mP.id h1 (by unfold St.logA; rw [hw]) hk
theorem m_byteAt (hX : Fx n S R) (h : RM σ I SL) (i : Int32) : wp 1 25 0 0 MX7_byteAt 0 [(0, .ref 39), (1, .int i)] [] (n, S, R, I) (mP I n S R (σ.byteAt i)) := by
  have z : (S 52).2 = 1500 := hX.len (by decide)
  first | refine wp_aload_n (pc := 0) dX7_byteAt_0 rfl ?_ | refine wp_aload_nN (pc := 0) dX7_byteAt_0 rfl ?_
  refine wp_iconst (pc := 1) (v := 0) dX7_byteAt_1 (by decide) ?_
  refine wp_putI (pc := 2) dX7_byteAt_2 fl_LevelStoreModel_89 (by first | assumption | exact Fx.ok (by assumption) (by decide)) rfl rfl (Or.inl rfl) ?_
  have h1 := h.z
  have hk := kC.z (I := I)
  generalize ab_u2 I 39 0 0 = J at h1 hk ⊢
  refine wp_iload_n (pc := 5) dX7_byteAt_5 rfl ?_
  refine wp_i2l (pc := 6) dX7_byteAt_6 ?_
  refine wp_lconst (pc := 7) (v := 0) dX7_byteAt_7 (by decide) ?_
  refine wp_ldc2 (pc := 8) (v := 1499) dX7_byteAt_8 cl2_LevelStoreModel_219 ?_
  refine cv_LevelStoreModel_103 (pc := 11) (s_inI i l64_0 l64_1499) rfl dX7_byteAt_11 ⟨by decide, by decide, Nat.zero_le _, Nat.zero_le _⟩ (Nat.le_of_ble_eq_true rfl) (fun v h hp => ?_)
  obtain ⟨rfl, rfl⟩ := hp
  refine wp_if_eq (pc := 14) (tgt := 26) dX7_byteAt_14 (by decide) (fun hc => ?_) (fun hc => ?_)
  · have hb := ite01 hc
    refine wp_ldc (pc := 26) (v := -1000002) dX7_byteAt_26 cn_LevelStoreModel_111 ?_
    refine wp_ret (pc := 28) dX7_byteAt_28 rfl (by first | trivial | exact Or.inl rfl | exact Or.inr rfl | assumption) ?_
    first
    | exact mP.id h1 (by unfold St.byteAt; rw [if_pos (by omega)]) hk
    | exact mP.id h1 (by unfold St.byteAt; rw [if_neg (by omega)]) hk
  · have hb := ite01n hc
    first | refine wp_aload_n (pc := 17) dX7_byteAt_17 rfl ?_ | refine wp_aload_nN (pc := 17) dX7_byteAt_17 rfl ?_
    refine wp_getR (pc := 18) dX7_byteAt_18 fl_LevelStoreModel_46 (by first | assumption | exact Fx.ok (by assumption) (by decide)) rfl (by first | assumption | exact Fx.ref (by assumption) rfl) ?_
    refine wp_iload_n (pc := 21) dX7_byteAt_21 rfl ?_
    refine wp_iaload (pc := 22) dX7_byteAt_22 (by first | assumption | exact Fx.ok (by assumption) (by decide)) (in_I (by omega) (by rw [z]; omega)) ?_
    rw [tI_c, h1.fd.2 _ (by omega)]
    refine wp_goto (pc := 23) (tgt := 28) dX7_byteAt_23 (by decide) ?_
    refine wp_ret (pc := 28) dX7_byteAt_28 rfl (by first | trivial | exact Or.inl rfl | exact Or.inr rfl | assumption) ?_
    first
    | exact mP.id h1 (by unfold St.byteAt; rw [if_pos (by omega)]) hk
    | exact mP.id h1 (by unfold St.byteAt; rw [if_neg (by omega)]) hk
end M1
