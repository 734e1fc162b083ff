/-! high, count, check -/
section RS
variable {σ : St} {n : Nat} {S : ab_SH} {R : ab_RR} {I : ab_II} {A : AC} {P : Nat → List Nat} {sp : List FA}
theorem files_at {t : Nat} (ht : t < 4) : (σ.files (nI t)).1 = nI (σ.FS t).length := by
  have e : (nI t).toInt = t := tI_n (by omega)
  unfold St.files
  rw [if_pos ⟨by omega, by omega⟩, e, Int.toNat_natCast]
theorem s_high_step (h : RC σ n S R I A P sp) {post : ab_Po} {t m : Nat} (ht : t < 3) (hm : m = if t = 2 then 6 else 3) (h1 : m < (σ.FS t).length → post (some (.int (nI t))) (n, S, R, I)) (h2 : ¬ m < (σ.FS t).length → ∀ L, ab_sub L [(0, .ref 3), (1, .int (nI (t + 1)))] → wp 3 62 0 0 MX6_high 2 L [] (n, S, R, I) post) (L : List (Nat × Value)) (hL : ab_sub L [(0, .ref 3), (1, .int (nI t))]) : wp 3 62 0 0 MX6_high 2 L [] (n, S, R, I) post := by
  refine wp_loc hL ?_
  have hX := h.fx
  have et : (nI t).toInt = t := tI_n (by omega)
  have htp := h.tp
  have hlen := h.len (k := t) (by omega) (by omega)
  have htl := tot_le (P := P) (k := t) (by omega)
  have el : (nI (σ.FS t).length).toInt = (σ.FS t).length := tI_n (by omega)
  by_cases h22 : t = 2
  · rw [if_pos h22] at hm
    subst hm
    refine wp_iload_n (pc := 2) dX6_high_2 rfl ?_
    refine wp_iconst (pc := 3) (v := 3) dX6_high_3 (by decide) ?_
    refine wp_icmp_ge (pc := 4) (tgt := 36) dX6_high_4 (by decide) (fun hc => ?_) (fun hc => ?_)
    · rw [tl_3] at hc; omega
    · skip
      refine wp_iload_n (pc := 7) dX6_high_7 rfl ?_
      refine wp_iconst (pc := 8) (v := 2) dX6_high_8 (by decide) ?_
      refine wp_icmp_ne (pc := 9) (tgt := 17) dX6_high_9 (by decide) (fun hc => ?_) (fun hc => ?_)
      · rw [tl_2] at hc; omega
      · skip
        refine wp_bipush (pc := 12) (v := 6) dX6_high_12 (by decide) ?_
        refine wp_goto (pc := 14) (tgt := 18) dX6_high_14 (by decide) ?_
        refine wp_istore_n (pc := 18) dX6_high_18 (by decide) rfl ?_
        first | refine wp_aload_n (pc := 19) dX6_high_19 rfl ?_ | refine wp_aload_nN (pc := 19) dX6_high_19 rfl ?_
        refine wp_iload_n (pc := 20) dX6_high_20 rfl ?_
        refine cv_LevelStore_115 (pc := 21) (s_files h (nI t)) rfl dX6_high_21 (by first | assumption | exact Fx.ok (by assumption) (by decide)) ⟨by decide, by decide, Nat.zero_le _, Nat.zero_le _⟩ (Nat.le_of_ble_eq_true rfl) (fun v h hp => ?_)
        obtain ⟨rfl, rfl⟩ := hp
        rw [files_at (by omega)]
        refine wp_iload_n (pc := 24) dX6_high_24 rfl ?_
        refine wp_icmp_le (pc := 25) (tgt := 30) dX6_high_25 (by decide) (fun hc => ?_) (fun hc => ?_)
        · rw [el, tl_6] at hc
          refine wp_iinc (pc := 30) dX6_high_30 rfl (by decide) rfl ?_
          refine wp_goto (pc := 33) (tgt := 2) dX6_high_33 (by decide) ?_
          rw [← nI_i1] at h2
          exact h2 (by omega) _ ⟨rfl, rfl, trivial⟩
        · rw [el, tl_6] at hc
          refine wp_iload_n (pc := 28) dX6_high_28 rfl ?_
          refine wp_ret (pc := 29) dX6_high_29 rfl (by first | trivial | exact Or.inl rfl | exact Or.inr rfl | assumption) ?_
          exact h1 (by omega)
  · rw [if_neg h22] at hm
    subst hm
    refine wp_iload_n (pc := 2) dX6_high_2 rfl ?_
    refine wp_iconst (pc := 3) (v := 3) dX6_high_3 (by decide) ?_
    refine wp_icmp_ge (pc := 4) (tgt := 36) dX6_high_4 (by decide) (fun hc => ?_) (fun hc => ?_)
    · rw [tl_3] at hc; omega
    · skip
      refine wp_iload_n (pc := 7) dX6_high_7 rfl ?_
      refine wp_iconst (pc := 8) (v := 2) dX6_high_8 (by decide) ?_
      refine wp_icmp_ne (pc := 9) (tgt := 17) dX6_high_9 (by decide) (fun hc => ?_) (fun hc => ?_)
      · skip
        refine wp_iconst (pc := 17) (v := 3) dX6_high_17 (by decide) ?_
        refine wp_istore_n (pc := 18) dX6_high_18 (by decide) rfl ?_
        first | refine wp_aload_n (pc := 19) dX6_high_19 rfl ?_ | refine wp_aload_nN (pc := 19) dX6_high_19 rfl ?_
        refine wp_iload_n (pc := 20) dX6_high_20 rfl ?_
        refine cv_LevelStore_115 (pc := 21) (s_files h (nI t)) rfl dX6_high_21 (by first | assumption | exact Fx.ok (by assumption) (by decide)) ⟨by decide, by decide, Nat.zero_le _, Nat.zero_le _⟩ (Nat.le_of_ble_eq_true rfl) (fun v h hp => ?_)
        obtain ⟨rfl, rfl⟩ := hp
        rw [files_at (by omega)]
        refine wp_iload_n (pc := 24) dX6_high_24 rfl ?_
        refine wp_icmp_le (pc := 25) (tgt := 30) dX6_high_25 (by decide) (fun hc => ?_) (fun hc => ?_)
        · rw [el, tl_3] at hc
          refine wp_iinc (pc := 30) dX6_high_30 rfl (by decide) rfl ?_
          refine wp_goto (pc := 33) (tgt := 2) dX6_high_33 (by decide) ?_
          rw [← nI_i1] at h2
          exact h2 (by omega) _ ⟨rfl, rfl, trivial⟩
        · rw [el, tl_3] at hc
          refine wp_iload_n (pc := 28) dX6_high_28 rfl ?_
          refine wp_ret (pc := 29) dX6_high_29 rfl (by first | trivial | exact Or.inl rfl | exact Or.inr rfl | assumption) ?_
          exact h1 (by omega)
      · rw [tl_2] at hc; omega
theorem s_high_out (hX : Fx n S R) {post : ab_Po} (hp : post (some (.int cNONE)) (n, S, R, I)) (L : List (Nat × Value)) (hL : ab_sub L [(0, .ref 3), (1, .int (nI 3))]) : wp 3 62 0 0 MX6_high 2 L [] (n, S, R, I) post := by
  refine wp_loc hL ?_
  have et : (nI 3).toInt = 3 := tI_n (by decide)
  refine wp_iload_n (pc := 2) dX6_high_2 rfl ?_
  refine wp_iconst (pc := 3) (v := 3) dX6_high_3 (by decide) ?_
  refine wp_icmp_ge (pc := 4) (tgt := 36) dX6_high_4 (by decide) (fun hc => ?_) (fun hc => ?_)
  · skip
    refine wp_ldc (pc := 36) (v := -1000009) dX6_high_36 cn_LevelStore_65 ?_
    refine wp_ret (pc := 38) dX6_high_38 rfl (by first | trivial | exact Or.inl rfl | exact Or.inr rfl | assumption) ?_
    exact hp
  · rw [tl_3] at hc; omega
theorem s_high (h : RC σ n S R I A P sp) : wp 3 62 0 0 MX6_high 0 [(0, .ref 3)] [] (n, S, R, I) (cP I n S R σ.high) := by
  have hX := h.fx
  have c0 : 3 < (σ.FS 0).length → σ.high = (0, σ) := fun q => by unfold St.high; rw [if_pos q]
  have c1 : ¬ 3 < (σ.FS 0).length → 3 < (σ.FS 1).length → σ.high = (1, σ) := fun q z => by unfold St.high; rw [if_neg q, if_pos z]
  have c2 : ¬ 3 < (σ.FS 0).length → ¬ 3 < (σ.FS 1).length → 6 < (σ.FS 2).length → σ.high = (2, σ) := fun q z w => by unfold St.high; rw [if_neg q, if_neg z, if_pos w]
  have c3 : ¬ 3 < (σ.FS 0).length → ¬ 3 < (σ.FS 1).length → ¬ 6 < (σ.FS 2).length → σ.high = (cNONE, σ) := fun q z w => by unfold St.high; rw [if_neg q, if_neg z, if_neg w]
  refine wp_iconst (pc := 0) (v := 0) dX6_high_0 (by decide) ?_
  refine wp_istore_n (pc := 1) dX6_high_1 (by decide) rfl ?_
  exact s_high_step h (t := 0) (by decide) rfl (fun q => cP.id2 h (c0 q)) (fun q L hL => s_high_step h (t := 1) (by decide) rfl (fun z => cP.id2 h (c1 q z)) (fun z L hL => s_high_step h (t := 2) (by decide) rfl (fun w => cP.id2 h (c2 q z w)) (fun w L hL => s_high_out hX (cP.id2 h (c3 q z w)) L hL) L hL) L hL) _ ⟨rfl, rfl, trivial⟩
theorem acc4_4 (f : Nat → Int32) : acc4 f 4 = f 0 + f 1 + f 2 + f 3 := by
  show 0 + f 0 + f 1 + f 2 + f 3 = _
  rw [Int32.zero_add]
theorem s_count (h : RC σ n S R I A P sp) (hjd : σ.job = true → σ.don ≤ σ.src.length ∧ σ.src.length ≤ 512) (w : Int32) : wp 6 133 0 0 MX6_count 0 [(0, .ref 3), (1, .int w)] [] (n, S, R, I) (cP I n S R (σ.count w)) := by
  have hX := h.fx
  obtain ⟨g, hg, -⟩ := h.lg
  have e5 := h.len (k := 5) (by decide) (by decide)
  have ef : acc4 (fun k => nI (σ.FS k).length) 4 = nI ((σ.FS 0).length + (σ.FS 1).length + (σ.FS 2).length + (σ.FS 3).length) := by
    rw [acc4_4]
    show nI _ + nI _ + nI _ + nI _ = _
    rw [nI_add, nI_add, nI_add]
  have eb : acc4 (fun k => (σ.FS k).foldl smB 0) 4 = nBy σ.FS := acc4_4 _
  have ee : acc4 (fun k => (σ.FS k).foldl smE 0) 4 = nEn σ.FS := acc4_4 _
  refine wp_iload_n (pc := 0) dX6_count_0 rfl ?_
  refine wp_tableAt (pc := 1) (0) (off := 51) (tgt := 52) dX6_count_1 (by decide) (by decide) rfl (by decide) (fun hc => ?_) (fun hc => ?_)
  · skip
    first | refine wp_aload_n (pc := 52) dX6_count_52 rfl ?_ | refine wp_aload_nN (pc := 52) dX6_count_52 rfl ?_
    refine wp_getR (pc := 53) dX6_count_53 fl_LevelStore_14 (by first | assumption | exact Fx.ok (by assumption) (by decide)) rfl (by first | assumption | exact Fx.ref (by assumption) rfl) ?_
    refine wp_getI (pc := 56) dX6_count_56 fl_LevelStore_66 (by first | assumption | exact Fx.ok (by assumption) (by decide)) rfl ?_
    refine wp_ret (pc := 59) dX6_count_59 rfl (by first | trivial | exact Or.inl rfl | exact Or.inr rfl | assumption) ?_
    exact cP.id2 h (by rw [hg.1]; unfold St.count; rw [if_pos hc])
  refine wp_tableAt (pc := 1) (1) (off := 59) (tgt := 60) dX6_count_1 (by decide) (by decide) rfl (by decide) (fun hc => ?_) (fun hc => ?_)
  · skip
    first | refine wp_aload_n (pc := 60) dX6_count_60 rfl ?_ | refine wp_aload_nN (pc := 60) dX6_count_60 rfl ?_
    refine wp_getI (pc := 61) dX6_count_61 fl_LevelStore_70 (by first | assumption | exact Fx.ok (by assumption) (by decide)) rfl ?_
    refine wp_ret (pc := 64) dX6_count_64 rfl (by first | trivial | exact Or.inl rfl | exact Or.inr rfl | assumption) ?_
    exact cP.id2 h (by rw [h.c3.1]; unfold St.count; rw [if_neg (by omega), if_pos hc])
  refine wp_tableAt (pc := 1) (2) (off := 64) (tgt := 65) dX6_count_1 (by decide) (by decide) rfl (by decide) (fun hc => ?_) (fun hc => ?_)
  · skip
    first | refine wp_aload_n (pc := 65) dX6_count_65 rfl ?_ | refine wp_aload_nN (pc := 65) dX6_count_65 rfl ?_
    refine wp_getI (pc := 66) dX6_count_66 fl_LevelStore_80 (by first | assumption | exact Fx.ok (by assumption) (by decide)) rfl ?_
    refine wp_ret (pc := 69) dX6_count_69 rfl (by first | trivial | exact Or.inl rfl | exact Or.inr rfl | assumption) ?_
    exact cP.id2 h (by rw [h.c3.2.1]; unfold St.count; rw [if_neg (by omega), if_neg (by omega), if_pos hc])
  refine wp_tableAt (pc := 1) (3) (off := 69) (tgt := 70) dX6_count_1 (by decide) (by decide) rfl (by decide) (fun hc => ?_) (fun hc => ?_)
  · skip
    first | refine wp_aload_n (pc := 70) dX6_count_70 rfl ?_ | refine wp_aload_nN (pc := 70) dX6_count_70 rfl ?_
    refine cv_LevelStore_238 (pc := 71) (s_filesInForce h) rfl dX6_count_71 (by first | assumption | exact Fx.ok (by assumption) (by decide)) ⟨by decide, by decide, Nat.zero_le _, Nat.zero_le _⟩ (Nat.le_of_ble_eq_true rfl) (fun v h hp => ?_)
    obtain ⟨rfl, rfl⟩ := hp
    refine wp_ret (pc := 74) dX6_count_74 rfl (by first | trivial | exact Or.inl rfl | exact Or.inr rfl | assumption) ?_
    exact cP.id2 h (by rw [ef]; unfold St.count; rw [if_neg (by omega), if_neg (by omega), if_neg (by omega), if_pos hc])
  refine wp_tableAt (pc := 1) (4) (off := 74) (tgt := 75) dX6_count_1 (by decide) (by decide) rfl (by decide) (fun hc => ?_) (fun hc => ?_)
  · skip
    first | refine wp_aload_n (pc := 75) dX6_count_75 rfl ?_ | refine wp_aload_nN (pc := 75) dX6_count_75 rfl ?_
    refine cv_LevelStore_241 (pc := 76) (s_bytesInForce h) rfl dX6_count_76 (by first | assumption | exact Fx.ok (by assumption) (by decide)) ⟨by decide, by decide, Nat.zero_le _, Nat.zero_le _⟩ (Nat.le_of_ble_eq_true rfl) (fun v h hp => ?_)
    obtain ⟨rfl, rfl⟩ := hp
    refine wp_ret (pc := 79) dX6_count_79 rfl (by first | trivial | exact Or.inl rfl | exact Or.inr rfl | assumption) ?_
    exact cP.id2 h (by rw [eb]; unfold St.count; rw [if_neg (by omega), if_neg (by omega), if_neg (by omega), if_neg (by omega), if_pos hc])
  refine wp_tableAt (pc := 1) (5) (off := 79) (tgt := 80) dX6_count_1 (by decide) (by decide) rfl (by decide) (fun hc => ?_) (fun hc => ?_)
  · skip
    have hw5 : w.toInt = 5 := hc
    clear hc
    first | refine wp_aload_n (pc := 80) dX6_count_80 rfl ?_ | refine wp_aload_nN (pc := 80) dX6_count_80 rfl ?_
    refine wp_getR (pc := 81) dX6_count_81 fl_LevelStore_50 (by first | assumption | exact Fx.ok (by assumption) (by decide)) rfl (by first | assumption | exact Fx.ref (by assumption) rfl) ?_
    refine wp_getI (pc := 84) dX6_count_84 fl_LevelStore_108 (by first | assumption | exact Fx.ok (by assumption) (by decide)) rfl ?_
    refine wp_if_eq (pc := 87) (tgt := 100) dX6_count_87 (by decide) (fun hc => ?_) (fun hc => ?_)
    · have hjf : σ.job = false := by cases q : σ.job <;> rw [h.cj.1, q] at hc <;> first | rfl | exact absurd hc (by decide)
      refine wp_ldc (pc := 100) (v := -1000009) dX6_count_100 cn_LevelStore_65 ?_
      refine wp_ret (pc := 102) dX6_count_102 rfl (by first | trivial | exact Or.inl rfl | exact Or.inr rfl | assumption) ?_
      first | exact cP.id2 h (by unfold St.count; rw [if_neg (by omega), if_neg (by omega), if_neg (by omega), if_neg (by omega), if_neg (by omega), if_pos hw5, if_pos hjt]) | exact cP.id2 h (by unfold St.count; rw [if_neg (by omega), if_neg (by omega), if_neg (by omega), if_neg (by omega), if_neg (by omega), if_pos hw5, if_neg (by rw [hjf]; decide)])
    · have hjt : σ.job = true := by cases q : σ.job <;> rw [h.cj.1, q] at hc <;> first | rfl | exact absurd rfl hc
      obtain ⟨d1, d2⟩ := hjd hjt
      first | refine wp_aload_n (pc := 90) dX6_count_90 rfl ?_ | refine wp_aload_nN (pc := 90) dX6_count_90 rfl ?_
      refine wp_getR (pc := 91) dX6_count_91 fl_LevelStore_50 (by first | assumption | exact Fx.ok (by assumption) (by decide)) rfl (by first | assumption | exact Fx.ref (by assumption) rfl) ?_
      refine cv_LevelStore_143 (pc := 94) (s_X2_left hX) rfl dX6_count_94 (by first | assumption | exact Fx.ok (by assumption) (by decide)) ⟨by decide, by decide, Nat.zero_le _, Nat.zero_le _⟩ (Nat.le_of_ble_eq_true rfl) (fun v h hp => ?_)
      obtain ⟨rfl, rfl⟩ := hp
      rw [h.left (by omega) d1]
      refine wp_goto (pc := 97) (tgt := 102) dX6_count_97 (by decide) ?_
      refine wp_ret (pc := 102) dX6_count_102 rfl (by first | trivial | exact Or.inl rfl | exact Or.inr rfl | assumption) ?_
      first | exact cP.id2 h (by unfold St.count; rw [if_neg (by omega), if_neg (by omega), if_neg (by omega), if_neg (by omega), if_neg (by omega), if_pos hw5, if_pos hjt]) | exact cP.id2 h (by unfold St.count; rw [if_neg (by omega), if_neg (by omega), if_neg (by omega), if_neg (by omega), if_neg (by omega), if_pos hw5, if_neg (by rw [hjf]; decide)])
  refine wp_tableAt (pc := 1) (6) (off := 102) (tgt := 103) dX6_count_1 (by decide) (by decide) rfl (by decide) (fun hc => ?_) (fun hc => ?_)
  · skip
    first | refine wp_aload_n (pc := 103) dX6_count_103 rfl ?_ | refine wp_aload_nN (pc := 103) dX6_count_103 rfl ?_
    refine wp_getR (pc := 104) dX6_count_104 fl_LevelStore_50 (by first | assumption | exact Fx.ok (by assumption) (by decide)) rfl (by first | assumption | exact Fx.ref (by assumption) rfl) ?_
    refine wp_getR (pc := 107) dX6_count_107 fl_LevelStore_186 (by first | assumption | exact Fx.ok (by assumption) (by decide)) rfl (by first | assumption | exact Fx.ref (by assumption) rfl) ?_
    refine cv_LevelStore_154 (pc := 110) (s_X1_size (hX.fr (k := 5) (by decide)) (h.lF.1 5 (by decide)).1) rfl dX6_count_110 (by first | assumption | exact Fx.ok (by assumption) (by decide)) ⟨by decide, by decide, Nat.zero_le _, Nat.zero_le _⟩ (Nat.le_of_ble_eq_true rfl) (fun v h hp => ?_)
    obtain ⟨rfl, rfl⟩ := hp
    refine wp_ret (pc := 113) dX6_count_113 rfl (by first | trivial | exact Or.inl rfl | exact Or.inr rfl | assumption) ?_
    exact cP.id2 h (by rw [e5]; unfold St.count; rw [if_neg (by omega), if_neg (by omega), if_neg (by omega), if_neg (by omega), if_neg (by omega), if_neg (by omega), if_pos hc])
  refine wp_tableAt (pc := 1) (7) (off := 113) (tgt := 114) dX6_count_1 (by decide) (by decide) rfl (by decide) (fun hc => ?_) (fun hc => ?_)
  · skip
    first | refine wp_aload_n (pc := 114) dX6_count_114 rfl ?_ | refine wp_aload_nN (pc := 114) dX6_count_114 rfl ?_
    refine wp_getI (pc := 115) dX6_count_115 fl_LevelStore_244 (by first | assumption | exact Fx.ok (by assumption) (by decide)) rfl ?_
    refine wp_ret (pc := 118) dX6_count_118 rfl (by first | trivial | exact Or.inl rfl | exact Or.inr rfl | assumption) ?_
    exact cP.id2 h (by rw [h.c3.2.2]; unfold St.count; rw [if_neg (by omega), if_neg (by omega), if_neg (by omega), if_neg (by omega), if_neg (by omega), if_neg (by omega), if_neg (by omega), if_pos hc])
  refine wp_tableAt (pc := 1) (8) (off := 118) (tgt := 119) dX6_count_1 (by decide) (by decide) rfl (by decide) (fun hc => ?_) (fun hc => ?_)
  · skip
    first | refine wp_aload_n (pc := 119) dX6_count_119 rfl ?_ | refine wp_aload_nN (pc := 119) dX6_count_119 rfl ?_
    refine cv_LevelStore_247 (pc := 120) (s_entriesInForce h) rfl dX6_count_120 (by first | assumption | exact Fx.ok (by assumption) (by decide)) ⟨by decide, by decide, Nat.zero_le _, Nat.zero_le _⟩ (Nat.le_of_ble_eq_true rfl) (fun v h hp => ?_)
    obtain ⟨rfl, rfl⟩ := hp
    refine wp_ret (pc := 123) dX6_count_123 rfl (by first | trivial | exact Or.inl rfl | exact Or.inr rfl | assumption) ?_
    exact cP.id2 h (by rw [ee]; unfold St.count; rw [if_neg (by omega), if_neg (by omega), if_neg (by omega), if_neg (by omega), if_neg (by omega), if_neg (by omega), if_neg (by omega), if_neg (by omega), if_pos hc])
  refine wp_tableOut (pc := 1) (tgt := 124) dX6_count_1 (by omega) (by decide) ?_
  refine wp_ldc (pc := 124) (v := -1000002) dX6_count_124 cn_LevelStore_60 ?_
  refine wp_ret (pc := 126) dX6_count_126 rfl (by first | trivial | exact Or.inl rfl | exact Or.inr rfl | assumption) ?_
  exact cP.id2 h (by unfold St.count; rw [if_neg (by omega), if_neg (by omega), if_neg (by omega), if_neg (by omega), if_neg (by omega), if_neg (by omega), if_neg (by omega), if_neg (by omega), if_neg (by omega)])
theorem s_check_in (h : RC σ n S R I A P sp) {k : Nat} (hk : k < 4) (hok : ∀ F ∈ σ.FS k, FOK σ.B F) (w : Int32) (post : ab_Po) (hpost : ∀ I', ab_fr I I' [20, 23] → ∀ L, ab_sub L [(0, .ref 3), (1, .int 0), (2, .ref 9), (3, .int 4), (4, .int w)] → wp 4 91 0 0 MX6_check 73 L [] (n, S, R, I') post) :
    ∀ (d t : Nat) (y : Int32) (I1 : ab_II) (L : List (Nat × Value)), (P k).length = t + d → y = nI t → ab_fr I I1 [20, 23] → ab_sub L [(0, .ref 3), (1, .int 0), (2, .ref 9), (3, .int 4), (4, .int w), (5, .ref (fk k)), (6, .int y)] → wp 4 91 0 0 MX6_check 28 L [] (n, S, R, I1) post := by
  have hX := h.fx
  have htp := h.tp
  have htl := tot_le (P := P) (k := k) (by omega)
  have el : (nI (P k).length).toInt = (P k).length := tI_n (by omega)
  intro d
  induction d with
  | zero =>
    intro t y I1 L ht hy hf hL0
    refine wp_loc hL0 ?_
    have ey : y.toInt = t := by rw [hy, tI_n (by omega)]
    have h1 : RC σ n S R I1 A P sp := h.same (fun j hj => hf j (by simp at hj; simp; omega))
    obtain ⟨hL, hFl, hF⟩ := h1.lvk (k := k) (by omega) (by omega)
    have ofk := hF.1
    refine wp_iload (pc := 28) dX6_check_28 rfl ?_
    first | refine wp_aload (pc := 30) dX6_check_30 rfl ?_ | refine wp_aloadN (pc := 30) dX6_check_30 rfl ?_
    refine cv_LevelStore_154 (pc := 32) (s_X1_size hF hL) rfl dX6_check_32 (by assumption) ⟨by decide, by decide, Nat.zero_le _, Nat.zero_le _⟩ (Nat.le_of_ble_eq_true rfl) (fun v h hp => ?_)
    obtain ⟨rfl, rfl⟩ := hp
    refine wp_icmp_ge (pc := 35) (tgt := 73) dX6_check_35 (by decide) (fun hc => ?_) (fun hc => ?_)
    · skip
      exact hpost I1 hf _ ⟨rfl, rfl, rfl, rfl, rfl, trivial⟩
    · omega
  | succ d ih =>
    intro t y I1 L ht hy hf hL0
    refine wp_loc hL0 ?_
    have ey : y.toInt = t := by rw [hy, tI_n (by omega)]
    have h1 : RC σ n S R I1 A P sp := h.same (fun j hj => hf j (by simp at hj; simp; omega))
    obtain ⟨hL, hFl, hF⟩ := h1.lvk (k := k) (by omega) (by omega)
    have ofk := hF.1
    obtain ⟨q, F, hq, hFF, hS, hI⟩ := fl_at hFl (t := t) (by omega)
    obtain ⟨f1, f2, f3, f4, f5, f6⟩ := hok F (List.mem_of_getElem? hFF)
    obtain ⟨i1, i2, i3, hle, f, hff, hrl⟩ := id hI
    refine wp_iload (pc := 28) dX6_check_28 rfl ?_
    first | refine wp_aload (pc := 30) dX6_check_30 rfl ?_ | refine wp_aloadN (pc := 30) dX6_check_30 rfl ?_
    refine cv_LevelStore_154 (pc := 32) (s_X1_size hF hL) rfl dX6_check_32 (by first | assumption | exact Fx.ok (by assumption) (by decide)) ⟨by decide, by decide, Nat.zero_le _, Nat.zero_le _⟩ (Nat.le_of_ble_eq_true rfl) (fun v h hp => ?_)
    obtain ⟨rfl, rfl⟩ := hp
    refine wp_icmp_ge (pc := 35) (tgt := 73) dX6_check_35 (by decide) (fun hc => ?_) (fun hc => ?_)
    · omega
    · skip
      first | refine wp_aload (pc := 38) dX6_check_38 rfl ?_ | refine wp_aloadN (pc := 38) dX6_check_38 rfl ?_
      refine wp_iload (pc := 40) dX6_check_40 rfl ?_
      refine cv_LevelStore_150 (pc := 42) (s_X1_at hF hL y) rfl dX6_check_42 (by first | assumption | exact Fx.ok (by assumption) (by decide)) ⟨by decide, by decide, Nat.zero_le _, Nat.zero_le _⟩ (Nat.le_of_ble_eq_true rfl) (fun v h hp => ?_)
      obtain ⟨rfl, rfl⟩ := hp
      rw [show atV (P k) y = .ref q by unfold atV; rw [if_pos ⟨by omega, by omega⟩, ey, Int.toNat_natCast, List.getD_eq_getElem?_getD, hq]; rfl]
      first | refine wp_astore (pc := 45) dX6_check_45 (by decide) rfl ?_ | refine wp_astoreN (pc := 45) dX6_check_45 (by decide) rfl ?_
      first | refine wp_aload (pc := 47) dX6_check_47 rfl ?_ | refine wp_aloadN (pc := 47) dX6_check_47 rfl ?_
      refine wp_ifnull_r (pc := 49) dX6_check_49 ?_
      first | refine wp_aload_n (pc := 52) dX6_check_52 rfl ?_ | refine wp_aload_nN (pc := 52) dX6_check_52 rfl ?_
      refine wp_getR (pc := 53) dX6_check_53 fl_LevelStore_36 (by first | assumption | exact Fx.ok (by assumption) (by decide)) rfl (by first | assumption | exact Fx.ref (by assumption) rfl) ?_
      first | refine wp_aload (pc := 56) dX6_check_56 rfl ?_ | refine wp_aloadN (pc := 56) dX6_check_56 rfl ?_
      refine cv_LevelStore_250 (pc := 58) (s_X0_holds hX hS f1 f hff hrl (pl F) f5 (by rw [i2]; exact f3) (by rw [i3]; exact f4) (fun j b hb => by rw [h1.b]; exact f6 j b hb)) rfl dX6_check_58 (by first | assumption | exact Fx.ok (by assumption) (by decide)) ⟨by decide, by decide, Nat.zero_le _, Nat.zero_le _⟩ (Nat.le_of_ble_eq_true rfl) (fun v h hp => ?_)
      obtain ⟨rfl, I2, rfl, hf2⟩ := hp
      refine wp_if_ne (pc := 61) (tgt := 67) dX6_check_61 (by decide) (fun hc => ?_) (fun hc => ?_)
      · skip
        refine wp_iinc (pc := 67) dX6_check_67 rfl (by decide) rfl ?_
        refine wp_goto (pc := 70) (tgt := 28) dX6_check_70 (by decide) ?_
        exact ih (t + 1) _ I2 _ (by omega) (by rw [hy]; exact nI_i1 t) (hf.tr1 hf2) ⟨rfl, rfl, rfl, rfl, rfl, rfl, rfl, trivial⟩
      · exact absurd hc (by decide)
theorem s_check_nx {y : Int32} {post : ab_Po} (hk : ∀ L, ab_sub L [(0, .ref 3), (1, .int 0), (2, .ref 9), (3, .int 4), (4, .int (y + Int32.ofInt 1))] → wp 4 91 0 0 MX6_check 13 L [] (n, S, R, I) post) : wp 4 91 0 0 MX6_check 73 [(0, .ref 3), (1, .int 0), (2, .ref 9), (3, .int 4), (4, .int y)] [] (n, S, R, I) post := by
  refine wp_iinc (pc := 73) dX6_check_73 rfl (by decide) rfl ?_
  refine wp_goto (pc := 76) (tgt := 13) dX6_check_76 (by decide) ?_
  exact hk _ ⟨rfl, rfl, rfl, rfl, rfl, trivial⟩
theorem s_check_out (h : RC σ n S R I A P sp) (hok : ∀ k, k < 4 → ∀ F ∈ σ.FS k, FOK σ.B F) (post : ab_Po) (hpost : ∀ I', ab_fr I I' [20, 23] → post (some (.int 0)) (n, S, R, I')) :
    ∀ (d t : Nat) (y : Int32) (I1 : ab_II) (L : List (Nat × Value)), 4 = t + d → y = nI t → ab_fr I I1 [20, 23] → ab_sub L [(0, .ref 3), (1, .int 0), (2, .ref 9), (3, .int 4), (4, .int y)] → wp 4 91 0 0 MX6_check 13 L [] (n, S, R, I1) post := by
  have hX := h.fx
  have z : (S 9).2 = 4 := hX.len (by decide)
  have o9 : ab_ok n S 9 11 := hX.ok (by decide)
  intro d
  induction d with
  | zero =>
    intro t y I1 L ht hy hf hL0
    refine wp_loc hL0 ?_
    have ey : y.toInt = t := by rw [hy, tI_n (by omega)]
    refine wp_iload (pc := 13) dX6_check_13 rfl ?_
    refine wp_iload_n (pc := 15) dX6_check_15 rfl ?_
    refine wp_icmp_ge (pc := 16) (tgt := 79) dX6_check_16 (by decide) (fun hc => ?_) (fun hc => ?_)
    · skip
      refine wp_iload_n (pc := 79) dX6_check_79 rfl ?_
      refine wp_ret (pc := 80) dX6_check_80 rfl (by first | trivial | exact Or.inl rfl | exact Or.inr rfl | assumption) ?_
      exact hpost I1 hf
    · rw [tl_4] at hc; omega
  | succ d ih =>
    intro t y I1 L ht hy hf hL0
    refine wp_loc hL0 ?_
    have ey : y.toInt = t := by rw [hy, tI_n (by omega)]
    have ec : y.toNatClampNeg = t := by rw [tI_c]; omega
    have h1 : RC σ n S R I1 A P sp := h.same (fun j hj => hf j (by simp at hj; simp; omega))
    have hr : R 9 y.toNatClampNeg = some (fk t) := by rw [ec]; exact lv_ref hX (by omega)
    refine wp_iload (pc := 13) dX6_check_13 rfl ?_
    refine wp_iload_n (pc := 15) dX6_check_15 rfl ?_
    refine wp_icmp_ge (pc := 16) (tgt := 79) dX6_check_16 (by decide) (fun hc => ?_) (fun hc => ?_)
    · rw [tl_4] at hc; omega
    · skip
      first | refine wp_aload_n (pc := 19) dX6_check_19 rfl ?_ | refine wp_aload_nN (pc := 19) dX6_check_19 rfl ?_
      refine wp_iload (pc := 20) dX6_check_20 rfl ?_
      refine wp_aaload (pc := 22) dX6_check_22 (Or.inl o9) (in_I (by omega) (by rw [z]; omega)) (hr) ?_
      first | refine wp_astore (pc := 23) dX6_check_23 (by decide) rfl ?_ | refine wp_astoreN (pc := 23) dX6_check_23 (by decide) rfl ?_
      refine wp_iconst (pc := 25) (v := 0) dX6_check_25 (by decide) ?_
      refine wp_istore (pc := 26) dX6_check_26 (by decide) rfl ?_
      exact s_check_in h1 (k := t) (by omega) (hok t (by omega)) y _ (fun I2 hf2 L2 hL2 => wp_loc hL2 (s_check_nx (fun L3 hL3 => ih (t + 1) _ I2 _ (by omega) (by rw [hy]; exact nI_i1 t) (hf.tr1 hf2) hL3))) (P t).length 0 _ I1 _ (by omega) rfl ab_fr.rf ⟨rfl, rfl, rfl, rfl, rfl, rfl, rfl, trivial⟩
theorem s_check (h : RC σ n S R I A P sp) (hok : ∀ k, k < 4 → ∀ F ∈ σ.FS k, FOK σ.B F) : wp 4 91 0 0 MX6_check 0 [(0, .ref 3)] [] (n, S, R, I) (cP I n S R σ.check) := by
  have hX := h.fx
  have z : (S 9).2 = 4 := hX.len (by decide)
  have o9 : ab_ok n S 9 11 := hX.ok (by decide)
  refine wp_iconst (pc := 0) (v := 0) dX6_check_0 (by decide) ?_
  refine wp_istore_n (pc := 1) dX6_check_1 (by decide) rfl ?_
  first | refine wp_aload_n (pc := 2) dX6_check_2 rfl ?_ | refine wp_aload_nN (pc := 2) dX6_check_2 rfl ?_
  refine wp_getR (pc := 3) dX6_check_3 fl_LevelStore_25 (by first | assumption | exact Fx.ok (by assumption) (by decide)) rfl (by first | assumption | exact Fx.ref (by assumption) rfl) ?_
  first | refine wp_astore_n (pc := 6) dX6_check_6 (by decide) rfl ?_ | refine wp_astore_nN (pc := 6) dX6_check_6 (by decide) rfl ?_
  first | refine wp_aload_n (pc := 7) dX6_check_7 rfl ?_ | refine wp_aload_nN (pc := 7) dX6_check_7 rfl ?_
  first | refine wp_alen (pc := 8) dX6_check_8 (Or.inl (by assumption)) ?_ | refine wp_alen (pc := 8) dX6_check_8 (Or.inr (Or.inl (by assumption))) ?_ | refine wp_alen (pc := 8) dX6_check_8 (Or.inr (Or.inr (Or.inl (by assumption)))) ?_ | refine wp_alen (pc := 8) dX6_check_8 (Or.inr (Or.inr (Or.inr (by assumption)))) ?_
  rw [z]
  refine wp_istore_n (pc := 9) dX6_check_9 (by decide) rfl ?_
  refine wp_iconst (pc := 10) (v := 0) dX6_check_10 (by decide) ?_
  refine wp_istore (pc := 11) dX6_check_11 (by decide) rfl ?_
  exact s_check_out h hok _ (fun I' hf => ⟨rfl, n, S, R, I', A, P, sp, rfl, ab_ex.rf, h.same (fun j hj => hf j (by simp at hj; simp; omega)), fun j hj => hf j (by simp; omega)⟩) 4 0 _ I _ rfl rfl ab_fr.rf ⟨rfl, rfl, rfl, rfl, rfl, trivial⟩
end RS
