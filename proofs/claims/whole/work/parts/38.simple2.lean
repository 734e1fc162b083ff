/-! THE PROGRAM'S SMALL CALLS, 2 -/
def acc4 (f : Nat → Int32) : Nat → Int32
  | 0 => 0
  | t + 1 => acc4 f t + f t
section SM2
variable {σ : St} {n : Nat} {S : ab_SH} {R : ab_RR} {I : ab_II} {A : AC} {P : Nat → List Nat} {sp : List FA}
theorem s_hold (h : RC σ n S R I A P sp) (v : Int32) : wp 3 63 0 0 MX6_hold 0 [(0, .ref 3), (1, .int v)] [] (n, S, R, I) (cP I n S R (σ.hold v)) := by
  have hX := h.fx
  have z : (S 8).2 = 3 := hX.len (by decide)
  have o8 : ab_ok n S 8 9 := hX.ok (by decide)
  first | refine wp_aload_n (pc := 0) dX6_hold_0 rfl ?_ | refine wp_aload_nN (pc := 0) dX6_hold_0 rfl ?_
  refine wp_iload_n (pc := 1) dX6_hold_1 rfl ?_
  refine cv_LevelStore_104 (pc := 2) (s_isView hX v) rfl dX6_hold_2 (by first | assumption | exact Fx.ok (by assumption) (by decide)) ⟨by decide, by decide, Nat.zero_le _, Nat.zero_le _⟩ (Nat.le_of_ble_eq_true rfl) (fun v h hp => ?_)
  obtain ⟨rfl, rfl⟩ := hp
  refine wp_if_ne (pc := 5) (tgt := 11) dX6_hold_5 (by decide) (fun hc => ?_) (fun hc => ?_)
  · have hv := ite01n hc
    first | refine wp_aload_n (pc := 11) dX6_hold_11 rfl ?_ | refine wp_aload_nN (pc := 11) dX6_hold_11 rfl ?_
    refine wp_iload_n (pc := 12) dX6_hold_12 rfl ?_
    refine cv_LevelStore_86 (pc := 13) (s_isHeld h v) rfl dX6_hold_13 (by first | assumption | exact Fx.ok (by assumption) (by decide)) ⟨by decide, by decide, Nat.zero_le _, Nat.zero_le _⟩ (Nat.le_of_ble_eq_true rfl) (fun v h hp => ?_)
    obtain ⟨rfl, rfl⟩ := hp
    refine wp_if_eq (pc := 16) (tgt := 22) dX6_hold_16 (by decide) (fun hc => ?_) (fun hc => ?_)
    · have hh := ite01 hc
      first | refine wp_aload_n (pc := 22) dX6_hold_22 rfl ?_ | refine wp_aload_nN (pc := 22) dX6_hold_22 rfl ?_
      refine wp_getR (pc := 23) dX6_hold_23 fl_LevelStore_18 (by first | assumption | exact Fx.ok (by assumption) (by decide)) rfl (by first | assumption | exact Fx.ref (by assumption) rfl) ?_
      refine wp_iload_n (pc := 26) dX6_hold_26 rfl ?_
      first | refine wp_aload_n (pc := 27) dX6_hold_27 rfl ?_ | refine wp_aload_nN (pc := 27) dX6_hold_27 rfl ?_
      refine wp_getI (pc := 28) dX6_hold_28 fl_LevelStore_80 (by first | assumption | exact Fx.ok (by assumption) (by decide)) rfl ?_
      refine wp_iastore (pc := 31) dX6_hold_31 (by first | assumption | exact Fx.ok (by assumption) (by decide)) (in_I hv.1 (by rw [z]; exact hv.2)) ?_
      first | refine wp_aload_n (pc := 32) dX6_hold_32 rfl ?_ | refine wp_aload_nN (pc := 32) dX6_hold_32 rfl ?_
      refine wp_getI (pc := 33) dX6_hold_33 fl_LevelStore_80 (by first | assumption | exact Fx.ok (by assumption) (by decide)) rfl ?_
      refine wp_ret (pc := 36) dX6_hold_36 rfl (by first | trivial | exact Or.inl rfl | exact Or.inr rfl | assumption) ?_
      rw [show σ.hold v = (nI σ.num, σ.D σ.log σ.syn σ.num (va_up σ.V v.toInt.toNat (nI σ.num))) by unfold St.hold; rw [if_pos hv, if_neg (fun q => hh ⟨hv, q⟩)]]
      refine ⟨by rw [ab_u2_r _ _ (by decide), h.c3.2.1], n, S, R, _, A, P, sp, rfl, ab_ex.rf, h.setD (fun j hj => ?_) ?_ ?_ ?_ ?_ ?_, fun j hj => ?_⟩
      · simp only [List.mem_cons, List.not_mem_nil, or_false, not_or] at hj
        rw [ab_u2_r _ _ (by omega)]
      · exact h.lg.keep (ab_u2_r _ _ (by decide)) (ab_u2_r _ _ (by decide)) (ab_u2_r _ _ (by decide)) (ab_u2_r _ _ (by decide))
      · rw [ab_u2_r _ _ (by decide)]; exact h.c3.1
      · rw [ab_u2_r _ _ (by decide)]; exact h.c3.2.1
      · rw [ab_u2_r _ _ (by decide)]
      · funext j
        rw [h.c3.2.1, ← h.v, tI_c]
        simp [ab_u2, va_up]
      · rw [ab_u2_r _ _ (by omega)]
    · have hh := ite01n hc
      refine wp_ldc (pc := 19) (v := -1000003) dX6_hold_19 cn_LevelStore_107 ?_
      refine wp_ret (pc := 21) dX6_hold_21 rfl (by first | trivial | exact Or.inl rfl | exact Or.inr rfl | assumption) ?_
      rw [show σ.hold v = (cSTATE, σ) by unfold St.hold; rw [if_pos hv, if_pos hh.2]]; exact cP.id h
  · have hv := ite01 hc
    refine wp_ldc (pc := 8) (v := -1000001) dX6_hold_8 cn_LevelStore_89 ?_
    refine wp_ret (pc := 10) dX6_hold_10 rfl (by first | trivial | exact Or.inl rfl | exact Or.inr rfl | assumption) ?_
    rw [show σ.hold v = (cUNK, σ) by unfold St.hold; rw [if_neg hv]]; exact cP.id h
theorem s_release (h : RC σ n S R I A P sp) (v : Int32) : wp 3 63 0 0 MX6_release 0 [(0, .ref 3), (1, .int v)] [] (n, S, R, I) (cP I n S R (σ.release v)) := by
  have hX := h.fx
  have z : (S 8).2 = 3 := hX.len (by decide)
  have o8 : ab_ok n S 8 9 := hX.ok (by decide)
  first | refine wp_aload_n (pc := 0) dX6_release_0 rfl ?_ | refine wp_aload_nN (pc := 0) dX6_release_0 rfl ?_
  refine wp_iload_n (pc := 1) dX6_release_1 rfl ?_
  refine cv_LevelStore_86 (pc := 2) (s_isHeld h v) rfl dX6_release_2 (by first | assumption | exact Fx.ok (by assumption) (by decide)) ⟨by decide, by decide, Nat.zero_le _, Nat.zero_le _⟩ (Nat.le_of_ble_eq_true rfl) (fun v h hp => ?_)
  obtain ⟨rfl, rfl⟩ := hp
  refine wp_if_ne (pc := 5) (tgt := 11) dX6_release_5 (by decide) (fun hc => ?_) (fun hc => ?_)
  · have hv := ite01n hc
    first | refine wp_aload_n (pc := 11) dX6_release_11 rfl ?_ | refine wp_aload_nN (pc := 11) dX6_release_11 rfl ?_
    refine wp_iload_n (pc := 12) dX6_release_12 rfl ?_
    refine cv_LevelStore_90 (pc := 13) (s_numV h v) rfl dX6_release_13 (by first | assumption | exact Fx.ok (by assumption) (by decide)) ⟨by decide, by decide, Nat.zero_le _, Nat.zero_le _⟩ (Nat.le_of_ble_eq_true rfl) (fun v h hp => ?_)
    obtain ⟨rfl, rfl⟩ := hp
    rw [if_pos hv.1]
    refine wp_istore_n (pc := 16) dX6_release_16 (by decide) rfl ?_
    first | refine wp_aload_n (pc := 17) dX6_release_17 rfl ?_ | refine wp_aload_nN (pc := 17) dX6_release_17 rfl ?_
    refine wp_getR (pc := 18) dX6_release_18 fl_LevelStore_18 (by first | assumption | exact Fx.ok (by assumption) (by decide)) rfl (by first | assumption | exact Fx.ref (by assumption) rfl) ?_
    refine wp_iload_n (pc := 21) dX6_release_21 rfl ?_
    refine wp_iconst (pc := 22) (v := -1) dX6_release_22 (by decide) ?_
    refine wp_iastore (pc := 23) dX6_release_23 (by first | assumption | exact Fx.ok (by assumption) (by decide)) (in_I hv.1.1 (by rw [z]; exact hv.1.2)) ?_
    refine wp_iload_n (pc := 24) dX6_release_24 rfl ?_
    refine wp_ret (pc := 25) dX6_release_25 rfl (by first | trivial | exact Or.inl rfl | exact Or.inr rfl | assumption) ?_
    rw [show σ.release v = (σ.V v.toInt.toNat, σ.D σ.log σ.syn σ.num (va_up σ.V v.toInt.toNat (-1))) by unfold St.release; rw [if_pos hv]]
    refine ⟨rfl, n, S, R, _, A, P, sp, rfl, ab_ex.rf, h.setD (fun j hj => ?_) ?_ ?_ ?_ ?_ ?_, fun j hj => ?_⟩
    · simp only [List.mem_cons, List.not_mem_nil, or_false, not_or] at hj
      rw [ab_u2_r _ _ (by omega)]
    · exact h.lg.keep (ab_u2_r _ _ (by decide)) (ab_u2_r _ _ (by decide)) (ab_u2_r _ _ (by decide)) (ab_u2_r _ _ (by decide))
    · rw [ab_u2_r _ _ (by decide)]; exact h.c3.1
    · rw [ab_u2_r _ _ (by decide)]; exact h.c3.2.1
    · rw [ab_u2_r _ _ (by decide)]
    · funext j
      rw [← h.v, tI_c]
      simp [ab_u2, va_up]
    · rw [ab_u2_r _ _ (by omega)]
  · have hv := ite01 hc
    refine wp_ldc (pc := 8) (v := -1000001) dX6_release_8 cn_LevelStore_89 ?_
    refine wp_ret (pc := 10) dX6_release_10 rfl (by first | trivial | exact Or.inl rfl | exact Or.inr rfl | assumption) ?_
    rw [show σ.release v = (cUNK, σ) by unfold St.release; rw [if_neg hv]]; exact cP.id h
theorem lv_ref (hX : Fx n S R) {t : Nat} (ht : t < 4) : R 9 t = some (fk t) := hX.ref (by rcases (show t = 0 ∨ t = 1 ∨ t = 2 ∨ t = 3 by omega) with rfl | rfl | rfl | rfl <;> rfl)
theorem lv_ref2 (hX : Fx n S R) {l : Int32} (hl : isLv l) : R 9 l.toNatClampNeg = some (fk l.toInt.toNat) := by
  rw [tI_c]
  exact lv_ref hX (by have := hl.1; have := hl.2; omega)
theorem s_levelAt (hX : Fx n S R) {l : Int32} (hl : isLv l) : wp 0 0 0 0 MX6_levelAt 0 [(0, .ref 3), (1, .int l)] [] (n, S, R, I) (fun w h => h = (n, S, R, I) ∧ w = some (.ref (fk l.toInt.toNat))) := by
  have z : (S 9).2 = 4 := hX.len (by decide)
  have o9 : ab_ok n S 9 11 := hX.ok (by decide)
  have h1 := hl.1
  have h2 := hl.2
  have hr := lv_ref2 hX hl
  refine wp_iload_n (pc := 0) dX6_levelAt_0 rfl ?_
  refine wp_if_lt (pc := 1) (tgt := 22) dX6_levelAt_1 (by decide) (fun hc => ?_) (fun hc => ?_)
  · omega
  · skip
    refine wp_iload_n (pc := 4) dX6_levelAt_4 rfl ?_
    first | refine wp_aload_n (pc := 5) dX6_levelAt_5 rfl ?_ | refine wp_aload_nN (pc := 5) dX6_levelAt_5 rfl ?_
    refine wp_getR (pc := 6) dX6_levelAt_6 fl_LevelStore_25 (by first | assumption | exact Fx.ok (by assumption) (by decide)) rfl (by first | assumption | exact Fx.ref (by assumption) rfl) ?_
    first | refine wp_alen (pc := 9) dX6_levelAt_9 (Or.inl (by assumption)) ?_ | refine wp_alen (pc := 9) dX6_levelAt_9 (Or.inr (Or.inl (by assumption))) ?_ | refine wp_alen (pc := 9) dX6_levelAt_9 (Or.inr (Or.inr (Or.inl (by assumption)))) ?_ | refine wp_alen (pc := 9) dX6_levelAt_9 (Or.inr (Or.inr (Or.inr (by assumption)))) ?_
    refine wp_icmp_ge (pc := 10) (tgt := 22) dX6_levelAt_10 (by decide) (fun hc => ?_) (fun hc => ?_)
    · rw [z, tI_o (by omega)] at hc; omega
    · skip
      first | refine wp_aload_n (pc := 13) dX6_levelAt_13 rfl ?_ | refine wp_aload_nN (pc := 13) dX6_levelAt_13 rfl ?_
      refine wp_getR (pc := 14) dX6_levelAt_14 fl_LevelStore_25 (by first | assumption | exact Fx.ok (by assumption) (by decide)) rfl (by first | assumption | exact Fx.ref (by assumption) rfl) ?_
      refine wp_iload_n (pc := 17) dX6_levelAt_17 rfl ?_
      refine wp_aaload (pc := 18) dX6_levelAt_18 (by first | exact Or.inl (by assumption) | exact Or.inr (by assumption)) (in_I h1 (by rw [z]; exact h2)) (hr) ?_
      refine wp_goto (pc := 19) (tgt := 23) dX6_levelAt_19 (by decide) ?_
      first | refine wp_reta (pc := 23) dX6_levelAt_23 trivial ?_ | refine wp_retn (pc := 23) dX6_levelAt_23 trivial ?_
      exact ⟨rfl, rfl⟩
theorem s_levelAtN (hX : Fx n S R) {l : Int32} (hl : ¬ isLv l) : wp 0 0 0 0 MX6_levelAt 0 [(0, .ref 3), (1, .int l)] [] (n, S, R, I) (fun w h => h = (n, S, R, I) ∧ w = some .null) := by
  have z : (S 9).2 = 4 := hX.len (by decide)
  have o9 : ab_ok n S 9 11 := hX.ok (by decide)
  refine wp_iload_n (pc := 0) dX6_levelAt_0 rfl ?_
  refine wp_if_lt (pc := 1) (tgt := 22) dX6_levelAt_1 (by decide) (fun hc => ?_) (fun hc => ?_)
  · skip
    refine wp_null (pc := 22) dX6_levelAt_22 ?_
    first | refine wp_reta (pc := 23) dX6_levelAt_23 trivial ?_ | refine wp_retn (pc := 23) dX6_levelAt_23 trivial ?_
    exact ⟨rfl, rfl⟩
  · skip
    refine wp_iload_n (pc := 4) dX6_levelAt_4 rfl ?_
    first | refine wp_aload_n (pc := 5) dX6_levelAt_5 rfl ?_ | refine wp_aload_nN (pc := 5) dX6_levelAt_5 rfl ?_
    refine wp_getR (pc := 6) dX6_levelAt_6 fl_LevelStore_25 (by first | assumption | exact Fx.ok (by assumption) (by decide)) rfl (by first | assumption | exact Fx.ref (by assumption) rfl) ?_
    first | refine wp_alen (pc := 9) dX6_levelAt_9 (Or.inl (by assumption)) ?_ | refine wp_alen (pc := 9) dX6_levelAt_9 (Or.inr (Or.inl (by assumption))) ?_ | refine wp_alen (pc := 9) dX6_levelAt_9 (Or.inr (Or.inr (Or.inl (by assumption)))) ?_ | refine wp_alen (pc := 9) dX6_levelAt_9 (Or.inr (Or.inr (Or.inr (by assumption)))) ?_
    refine wp_icmp_ge (pc := 10) (tgt := 22) dX6_levelAt_10 (by decide) (fun hc => ?_) (fun hc => ?_)
    · skip
      refine wp_null (pc := 22) dX6_levelAt_22 ?_
      first | refine wp_reta (pc := 23) dX6_levelAt_23 trivial ?_ | refine wp_retn (pc := 23) dX6_levelAt_23 trivial ?_
      exact ⟨rfl, rfl⟩
    · rw [z, tI_o (by omega)] at hc; exact absurd ⟨by omega, by omega⟩ hl
theorem RC.lv (h : RC σ n S R I A P sp) {l : Int32} (hl : isLv l) : al_L n S R I (xk l.toInt.toNat) (A l.toInt.toNat).1 (A l.toInt.toNat).2 (P l.toInt.toNat) ∧ fl_I n S R I (P l.toInt.toNat) (σ.FS l.toInt.toNat) ∧ fr_S n S R (fk l.toInt.toNat) (xk l.toInt.toNat) := by
  have h1 := hl.1
  have h2 := hl.2
  have h4 : l.toInt.toNat < 6 := by omega
  have := h.lF.1 _ h4
  rw [up_ne (by omega)] at this
  exact ⟨this.1, this.2.1, h.fx.fr h4⟩
theorem RC.lvk (h : RC σ n S R I A P sp) {k : Nat} (hk : k < 6) (h4 : k ≠ 4) : al_L n S R I (xk k) (A k).1 (A k).2 (P k) ∧ fl_I n S R I (P k) (σ.FS k) ∧ fr_S n S R (fk k) (xk k) := by
  have := h.lF.1 _ hk
  rw [up_ne h4] at this
  exact ⟨this.1, this.2.1, h.fx.fr hk⟩
theorem s_fileAt (h : RC σ n S R I A P sp) {l i : Int32} {F : FA} (hO : σ.fileO l i = some F) : wp 4 85 0 0 MX6_fileAt 0 [(0, .ref 3), (1, .int l), (2, .int i)] [] (n, S, R, I) (fun w h => h = (n, S, R, I) ∧ ∃ q, w = some (.ref q) ∧ sf_S n S R q ∧ sf_I I q F) := by
  have hX := h.fx
  have hli : isLv l ∧ 0 ≤ i.toInt := Decidable.byContradiction fun q => by unfold St.fileO at hO; rw [if_neg q] at hO; cases hO
  unfold St.fileO at hO
  rw [if_pos hli] at hO
  obtain ⟨hL, hFl, hF⟩ := h.lv hli.1
  have hlt := (List.getElem?_eq_some_iff.mp hO).1
  have e := hFl.1
  have h0 := hli.2
  obtain ⟨q, F', hq, hF', hS, hI⟩ := fl_at hFl (t := i.toInt.toNat) (by omega)
  have eFF : F' = F := by rw [hO] at hF'; cases hF'; rfl
  subst eFF
  have ofk := hF.1
  first | refine wp_aload_n (pc := 0) dX6_fileAt_0 rfl ?_ | refine wp_aload_nN (pc := 0) dX6_fileAt_0 rfl ?_
  refine wp_iload_n (pc := 1) dX6_fileAt_1 rfl ?_
  refine cv_LevelStore_146 (pc := 2) (s_levelAt hX hli.1) rfl dX6_fileAt_2 (by first | assumption | exact Fx.ok (by assumption) (by decide)) ⟨by decide, by decide, Nat.zero_le _, Nat.zero_le _⟩ (Nat.le_of_ble_eq_true rfl) (fun v h hp => ?_)
  obtain ⟨rfl, rfl⟩ := hp
  first | refine wp_astore_n (pc := 5) dX6_fileAt_5 (by decide) rfl ?_ | refine wp_astore_nN (pc := 5) dX6_fileAt_5 (by decide) rfl ?_
  first | refine wp_aload_n (pc := 6) dX6_fileAt_6 rfl ?_ | refine wp_aload_nN (pc := 6) dX6_fileAt_6 rfl ?_
  refine wp_ifnonnull_r (pc := 7) (tgt := 14) dX6_fileAt_7 (by decide) ?_
  first | refine wp_aload_n (pc := 14) dX6_fileAt_14 rfl ?_ | refine wp_aload_nN (pc := 14) dX6_fileAt_14 rfl ?_
  refine wp_iload_n (pc := 15) dX6_fileAt_15 rfl ?_
  refine cv_LevelStore_150 (pc := 16) (s_X1_at hF hL i) rfl dX6_fileAt_16 (by first | assumption | exact Fx.ok (by assumption) (by decide)) ⟨by decide, by decide, Nat.zero_le _, Nat.zero_le _⟩ (Nat.le_of_ble_eq_true rfl) (fun v h hp => ?_)
  obtain ⟨rfl, rfl⟩ := hp
  rw [show atV (P l.toInt.toNat) i = .ref q by unfold atV; rw [if_pos ⟨h0, by omega⟩, List.getD_eq_getElem?_getD, hq]; rfl]
  first | refine wp_reta (pc := 19) dX6_fileAt_19 trivial ?_ | refine wp_retn (pc := 19) dX6_fileAt_19 trivial ?_
  exact ⟨rfl, q, rfl, hS, hI⟩
theorem s_fileAtN (h : RC σ n S R I A P sp) {l i : Int32} (hO : σ.fileO l i = none) : wp 4 85 0 0 MX6_fileAt 0 [(0, .ref 3), (1, .int l), (2, .int i)] [] (n, S, R, I) (fun w h => h = (n, S, R, I) ∧ w = some .null) := by
  have hX := h.fx
  by_cases hl : isLv l
  · obtain ⟨hL, hFl, hF⟩ := h.lv hl
    have e := hFl.1
    have hn : ¬ (0 ≤ i.toInt ∧ i.toInt < (P l.toInt.toNat).length) := fun q => by
      unfold St.fileO at hO
      rw [if_pos ⟨hl, q.1⟩] at hO
      have := List.getElem?_eq_none_iff.mp hO
      omega
    have ofk := hF.1
    first | refine wp_aload_n (pc := 0) dX6_fileAt_0 rfl ?_ | refine wp_aload_nN (pc := 0) dX6_fileAt_0 rfl ?_
    refine wp_iload_n (pc := 1) dX6_fileAt_1 rfl ?_
    refine cv_LevelStore_146 (pc := 2) (s_levelAt hX hl) rfl dX6_fileAt_2 (by first | assumption | exact Fx.ok (by assumption) (by decide)) ⟨by decide, by decide, Nat.zero_le _, Nat.zero_le _⟩ (Nat.le_of_ble_eq_true rfl) (fun v h hp => ?_)
    obtain ⟨rfl, rfl⟩ := hp
    first | refine wp_astore_n (pc := 5) dX6_fileAt_5 (by decide) rfl ?_ | refine wp_astore_nN (pc := 5) dX6_fileAt_5 (by decide) rfl ?_
    first | refine wp_aload_n (pc := 6) dX6_fileAt_6 rfl ?_ | refine wp_aload_nN (pc := 6) dX6_fileAt_6 rfl ?_
    refine wp_ifnonnull_r (pc := 7) (tgt := 14) dX6_fileAt_7 (by decide) ?_
    first | refine wp_aload_n (pc := 14) dX6_fileAt_14 rfl ?_ | refine wp_aload_nN (pc := 14) dX6_fileAt_14 rfl ?_
    refine wp_iload_n (pc := 15) dX6_fileAt_15 rfl ?_
    refine cv_LevelStore_150 (pc := 16) (s_X1_at hF hL i) rfl dX6_fileAt_16 (by first | assumption | exact Fx.ok (by assumption) (by decide)) ⟨by decide, by decide, Nat.zero_le _, Nat.zero_le _⟩ (Nat.le_of_ble_eq_true rfl) (fun v h hp => ?_)
    obtain ⟨rfl, rfl⟩ := hp
    rw [show atV (P l.toInt.toNat) i = .null by unfold atV; rw [if_neg hn]]
    first | refine wp_reta (pc := 19) dX6_fileAt_19 trivial ?_ | refine wp_retn (pc := 19) dX6_fileAt_19 trivial ?_
    exact ⟨rfl, rfl⟩
  · skip
    first | refine wp_aload_n (pc := 0) dX6_fileAt_0 rfl ?_ | refine wp_aload_nN (pc := 0) dX6_fileAt_0 rfl ?_
    refine wp_iload_n (pc := 1) dX6_fileAt_1 rfl ?_
    refine cv_LevelStore_146 (pc := 2) (s_levelAtN hX hl) rfl dX6_fileAt_2 (by first | assumption | exact Fx.ok (by assumption) (by decide)) ⟨by decide, by decide, Nat.zero_le _, Nat.zero_le _⟩ (Nat.le_of_ble_eq_true rfl) (fun v h hp => ?_)
    obtain ⟨rfl, rfl⟩ := hp
    refine wp_astore_nN (pc := 5) dX6_fileAt_5 (by decide) rfl ?_
    refine wp_aload_nN (pc := 6) dX6_fileAt_6 rfl ?_
    refine wp_ifnonnull_n (pc := 7) dX6_fileAt_7 ?_
    refine wp_null (pc := 10) dX6_fileAt_10 ?_
    refine wp_goto (pc := 11) (tgt := 19) dX6_fileAt_11 (by decide) ?_
    first | refine wp_reta (pc := 19) dX6_fileAt_19 trivial ?_ | refine wp_retn (pc := 19) dX6_fileAt_19 trivial ?_
    exact ⟨rfl, rfl⟩
theorem s_files (h : RC σ n S R I A P sp) (l : Int32) : wp 2 40 0 0 MX6_files 0 [(0, .ref 3), (1, .int l)] [] (n, S, R, I) (fun w h => h = (n, S, R, I) ∧ w = some (.int (σ.files l).1)) := by
  have hX := h.fx
  by_cases hl : isLv l
  · obtain ⟨hL, hFl, hF⟩ := h.lv hl
    have ofk := hF.1
    first | refine wp_aload_n (pc := 0) dX6_files_0 rfl ?_ | refine wp_aload_nN (pc := 0) dX6_files_0 rfl ?_
    refine wp_iload_n (pc := 1) dX6_files_1 rfl ?_
    refine cv_LevelStore_146 (pc := 2) (s_levelAt hX hl) rfl dX6_files_2 (by first | assumption | exact Fx.ok (by assumption) (by decide)) ⟨by decide, by decide, Nat.zero_le _, Nat.zero_le _⟩ (Nat.le_of_ble_eq_true rfl) (fun v h hp => ?_)
    obtain ⟨rfl, rfl⟩ := hp
    first | refine wp_astore_n (pc := 5) dX6_files_5 (by decide) rfl ?_ | refine wp_astore_nN (pc := 5) dX6_files_5 (by decide) rfl ?_
    first | refine wp_aload_n (pc := 6) dX6_files_6 rfl ?_ | refine wp_aload_nN (pc := 6) dX6_files_6 rfl ?_
    refine wp_ifnonnull_r (pc := 7) (tgt := 15) dX6_files_7 (by decide) ?_
    first | refine wp_aload_n (pc := 15) dX6_files_15 rfl ?_ | refine wp_aload_nN (pc := 15) dX6_files_15 rfl ?_
    refine cv_LevelStore_154 (pc := 16) (s_X1_size hF hL) rfl dX6_files_16 (by first | assumption | exact Fx.ok (by assumption) (by decide)) ⟨by decide, by decide, Nat.zero_le _, Nat.zero_le _⟩ (Nat.le_of_ble_eq_true rfl) (fun v h hp => ?_)
    obtain ⟨rfl, rfl⟩ := hp
    refine wp_ret (pc := 19) dX6_files_19 rfl (by first | trivial | exact Or.inl rfl | exact Or.inr rfl | assumption) ?_
    exact ⟨rfl, by unfold St.files; rw [if_pos hl, hFl.1]⟩
  · skip
    first | refine wp_aload_n (pc := 0) dX6_files_0 rfl ?_ | refine wp_aload_nN (pc := 0) dX6_files_0 rfl ?_
    refine wp_iload_n (pc := 1) dX6_files_1 rfl ?_
    refine cv_LevelStore_146 (pc := 2) (s_levelAtN hX hl) rfl dX6_files_2 (by first | assumption | exact Fx.ok (by assumption) (by decide)) ⟨by decide, by decide, Nat.zero_le _, Nat.zero_le _⟩ (Nat.le_of_ble_eq_true rfl) (fun v h hp => ?_)
    obtain ⟨rfl, rfl⟩ := hp
    refine wp_astore_nN (pc := 5) dX6_files_5 (by decide) rfl ?_
    refine wp_aload_nN (pc := 6) dX6_files_6 rfl ?_
    refine wp_ifnonnull_n (pc := 7) dX6_files_7 ?_
    refine wp_ldc (pc := 10) (v := -1000001) dX6_files_10 cn_LevelStore_89 ?_
    refine wp_goto (pc := 12) (tgt := 19) dX6_files_12 (by decide) ?_
    refine wp_ret (pc := 19) dX6_files_19 rfl (by first | trivial | exact Or.inl rfl | exact Or.inr rfl | assumption) ?_
    exact ⟨rfl, by unfold St.files; rw [if_neg hl]⟩
theorem cP.id2 (h : RC σ n S R I A P sp) {a : Int32 × St} {x : Int32} (e : a = (x, σ)) : cP I n S R a (some (.int x)) (n, S, R, I) := by rw [e]; exact cP.id h
theorem files_2 {l : Int32} : (σ.files l).2 = σ := by unfold St.files; split <;> rfl
theorem s_filesP (h : RC σ n S R I A P sp) (l : Int32) : wp 2 40 0 0 MX6_files 0 [(0, .ref 3), (1, .int l)] [] (n, S, R, I) (cP I n S R (σ.files l)) := by
  refine wp_post (fun v hh hp => ?_) (s_files h l)
  obtain ⟨rfl, rfl⟩ := hp
  exact cP.id2 h (Prod.ext rfl files_2)
theorem s_file (h : RC σ n S R I A P sp) (l i w : Int32) : wp 5 108 0 0 MX6_file 0 [(0, .ref 3), (1, .int l), (2, .int i), (3, .int w)] [] (n, S, R, I) (cP I n S R (σ.file l i w)) := by
  have hX := h.fx
  cases hO : σ.fileO l i with
  | none =>
    have e : σ.file l i w = (cUNK, σ) := by unfold St.file; rw [hO]
    rw [e]
    first | refine wp_aload_n (pc := 0) dX6_file_0 rfl ?_ | refine wp_aload_nN (pc := 0) dX6_file_0 rfl ?_
    refine wp_iload_n (pc := 1) dX6_file_1 rfl ?_
    refine wp_iload_n (pc := 2) dX6_file_2 rfl ?_
    refine cv_LevelStore_208 (pc := 3) (s_fileAtN h hO) rfl dX6_file_3 (by first | assumption | exact Fx.ok (by assumption) (by decide)) ⟨by decide, by decide, Nat.zero_le _, Nat.zero_le _⟩ (Nat.le_of_ble_eq_true rfl) (fun v h hp => ?_)
    obtain ⟨rfl, rfl⟩ := hp
    refine wp_astoreN (pc := 6) dX6_file_6 (by decide) rfl ?_
    refine wp_aloadN (pc := 8) dX6_file_8 rfl ?_
    refine wp_ifnonnull_n (pc := 10) dX6_file_10 ?_
    refine wp_ldc (pc := 13) (v := -1000001) dX6_file_13 cn_LevelStore_89 ?_
    refine wp_ret (pc := 15) dX6_file_15 rfl (by first | trivial | exact Or.inl rfl | exact Or.inr rfl | assumption) ?_
    exact cP.id h
  | some F =>
    have e : σ.file l i w = (fileA F w.toInt, σ) := by unfold St.file; rw [hO]
    rw [e]
    first | refine wp_aload_n (pc := 0) dX6_file_0 rfl ?_ | refine wp_aload_nN (pc := 0) dX6_file_0 rfl ?_
    refine wp_iload_n (pc := 1) dX6_file_1 rfl ?_
    refine wp_iload_n (pc := 2) dX6_file_2 rfl ?_
    refine cv_LevelStore_208 (pc := 3) (s_fileAt h hO) rfl dX6_file_3 (by first | assumption | exact Fx.ok (by assumption) (by decide)) ⟨by decide, by decide, Nat.zero_le _, Nat.zero_le _⟩ (Nat.le_of_ble_eq_true rfl) (fun v h hp => ?_)
    obtain ⟨rfl, q, rfl, hS, hI⟩ := hp
    have oq := hS.2.1
    have rq := hS.2.2.1
    have orq := hS.2.2.2.1
    obtain ⟨i1, i2, i3, hle, f, hf, hrl⟩ := id hI
    first | refine wp_astore (pc := 6) dX6_file_6 (by decide) rfl ?_ | refine wp_astoreN (pc := 6) dX6_file_6 (by decide) rfl ?_
    first | refine wp_aload (pc := 8) dX6_file_8 rfl ?_ | refine wp_aloadN (pc := 8) dX6_file_8 rfl ?_
    refine wp_ifnonnull_r (pc := 10) (tgt := 16) dX6_file_10 (by decide) ?_
    refine wp_iload_n (pc := 16) dX6_file_16 rfl ?_
    refine wp_tableAt (pc := 17) (0) (off := 39) (tgt := 56) dX6_file_17 (by decide) (by decide) rfl (by decide) (fun hc => ?_) (fun hc => ?_)
    · skip
      first | refine wp_aload (pc := 56) dX6_file_56 rfl ?_ | refine wp_aloadN (pc := 56) dX6_file_56 rfl ?_
      refine wp_getI (pc := 58) dX6_file_58 fl_LevelStore_212 (by first | assumption | exact Fx.ok (by assumption) (by decide)) rfl ?_
      refine wp_ret (pc := 61) dX6_file_61 rfl (by first | trivial | exact Or.inl rfl | exact Or.inr rfl | assumption) ?_
      exact cP.id2 h (by rw [i1]; unfold fileA; rw [if_pos hc])
    refine wp_tableAt (pc := 17) (1) (off := 45) (tgt := 62) dX6_file_17 (by decide) (by decide) rfl (by decide) (fun hc => ?_) (fun hc => ?_)
    · skip
      first | refine wp_aload (pc := 62) dX6_file_62 rfl ?_ | refine wp_aloadN (pc := 62) dX6_file_62 rfl ?_
      refine wp_getR (pc := 64) dX6_file_64 fl_LevelStore_216 (by first | assumption | exact Fx.ok (by assumption) (by decide)) rfl (by first | assumption | exact Fx.ref (by assumption) rfl) ?_
      refine wp_getI (pc := 67) dX6_file_67 fl_LevelStore_66 (by first | assumption | exact Fx.ok (by assumption) (by decide)) rfl ?_
      refine wp_ret (pc := 70) dX6_file_70 rfl (by first | trivial | exact Or.inl rfl | exact Or.inr rfl | assumption) ?_
      exact cP.id2 h (by rw [hf.1]; unfold fileA; rw [if_neg (by omega), if_pos hc])
    refine wp_tableAt (pc := 17) (2) (off := 54) (tgt := 71) dX6_file_17 (by decide) (by decide) rfl (by decide) (fun hc => ?_) (fun hc => ?_)
    · skip
      first | refine wp_aload (pc := 71) dX6_file_71 rfl ?_ | refine wp_aloadN (pc := 71) dX6_file_71 rfl ?_
      refine cv_LevelStore_219 (pc := 73) (s_X5_leastKey hS hI) rfl dX6_file_73 (by first | assumption | exact Fx.ok (by assumption) (by decide)) ⟨by decide, by decide, Nat.zero_le _, Nat.zero_le _⟩ (Nat.le_of_ble_eq_true rfl) (fun v h hp => ?_)
      obtain ⟨rfl, rfl⟩ := hp
      refine wp_ret (pc := 76) dX6_file_76 rfl (by first | trivial | exact Or.inl rfl | exact Or.inr rfl | assumption) ?_
      exact cP.id2 h (by unfold fileA; rw [if_neg (by omega), if_neg (by omega), if_pos hc])
    refine wp_tableAt (pc := 17) (3) (off := 60) (tgt := 77) dX6_file_17 (by decide) (by decide) rfl (by decide) (fun hc => ?_) (fun hc => ?_)
    · skip
      first | refine wp_aload (pc := 77) dX6_file_77 rfl ?_ | refine wp_aloadN (pc := 77) dX6_file_77 rfl ?_
      refine cv_LevelStore_221 (pc := 79) (s_X5_greatestKey hS hI) rfl dX6_file_79 (by first | assumption | exact Fx.ok (by assumption) (by decide)) ⟨by decide, by decide, Nat.zero_le _, Nat.zero_le _⟩ (Nat.le_of_ble_eq_true rfl) (fun v h hp => ?_)
      obtain ⟨rfl, rfl⟩ := hp
      refine wp_ret (pc := 82) dX6_file_82 rfl (by first | trivial | exact Or.inl rfl | exact Or.inr rfl | assumption) ?_
      exact cP.id2 h (by unfold fileA; rw [if_neg (by omega), if_neg (by omega), if_neg (by omega), if_pos hc])
    refine wp_tableAt (pc := 17) (4) (off := 66) (tgt := 83) dX6_file_17 (by decide) (by decide) rfl (by decide) (fun hc => ?_) (fun hc => ?_)
    · skip
      first | refine wp_aload (pc := 83) dX6_file_83 rfl ?_ | refine wp_aloadN (pc := 83) dX6_file_83 rfl ?_
      refine wp_getI (pc := 85) dX6_file_85 fl_LevelStore_223 (by first | assumption | exact Fx.ok (by assumption) (by decide)) rfl ?_
      refine wp_ret (pc := 88) dX6_file_88 rfl (by first | trivial | exact Or.inl rfl | exact Or.inr rfl | assumption) ?_
      exact cP.id2 h (by rw [i2]; unfold fileA; rw [if_neg (by omega), if_neg (by omega), if_neg (by omega), if_neg (by omega), if_pos hc])
    refine wp_tableAt (pc := 17) (5) (off := 72) (tgt := 89) dX6_file_17 (by decide) (by decide) rfl (by decide) (fun hc => ?_) (fun hc => ?_)
    · skip
      first | refine wp_aload (pc := 89) dX6_file_89 rfl ?_ | refine wp_aloadN (pc := 89) dX6_file_89 rfl ?_
      refine wp_getI (pc := 91) dX6_file_91 fl_LevelStore_226 (by first | assumption | exact Fx.ok (by assumption) (by decide)) rfl ?_
      refine wp_ret (pc := 94) dX6_file_94 rfl (by first | trivial | exact Or.inl rfl | exact Or.inr rfl | assumption) ?_
      exact cP.id2 h (by rw [i3]; unfold fileA; rw [if_neg (by omega), if_neg (by omega), if_neg (by omega), if_neg (by omega), if_neg (by omega), if_pos hc])
    refine wp_tableOut (pc := 17) (tgt := 95) dX6_file_17 (by omega) (by decide) ?_
    refine wp_ldc (pc := 95) (v := -1000002) dX6_file_95 cn_LevelStore_60 ?_
    refine wp_ret (pc := 97) dX6_file_97 rfl (by first | trivial | exact Or.inl rfl | exact Or.inr rfl | assumption) ?_
    exact cP.id2 h (by unfold fileA; rw [if_neg (by omega), if_neg (by omega), if_neg (by omega), if_neg (by omega), if_neg (by omega), if_neg (by omega)])
theorem told_eq {es : List En} {f : Nat → En} (hrl : rl es.length f = es) (k w : Int32) : (if 0 ≤ k.toInt ∧ k.toInt < es.length then (if w.toInt = 0 then (f k.toInt.toNat).1 else if w.toInt = 1 then (f k.toInt.toNat).2.1 else if w.toInt = 2 then (f k.toInt.toNat).2.2 else cBAD) else cBAD) = toldE es k w := by
  unfold toldE
  by_cases hk : 0 ≤ k.toInt ∧ k.toInt < es.length
  · rw [if_pos hk, if_pos hk, lfn_rl hrl (by omega)]
  · rw [if_neg hk, if_neg hk]
theorem s_entry (h : RC σ n S R I A P sp) (l i k w : Int32) : wp 5 108 0 0 MX6_entry 0 [(0, .ref 3), (1, .int l), (2, .int i), (3, .int k), (4, .int w)] [] (n, S, R, I) (cP I n S R (σ.entry l i k w)) := by
  have hX := h.fx
  cases hO : σ.fileO l i with
  | none =>
    have e : σ.entry l i k w = (cUNK, σ) := by unfold St.entry; rw [hO]
    rw [e]
    first | refine wp_aload_n (pc := 0) dX6_entry_0 rfl ?_ | refine wp_aload_nN (pc := 0) dX6_entry_0 rfl ?_
    refine wp_iload_n (pc := 1) dX6_entry_1 rfl ?_
    refine wp_iload_n (pc := 2) dX6_entry_2 rfl ?_
    refine cv_LevelStore_208 (pc := 3) (s_fileAtN h hO) rfl dX6_entry_3 (by first | assumption | exact Fx.ok (by assumption) (by decide)) ⟨by decide, by decide, Nat.zero_le _, Nat.zero_le _⟩ (Nat.le_of_ble_eq_true rfl) (fun v h hp => ?_)
    obtain ⟨rfl, rfl⟩ := hp
    refine wp_astoreN (pc := 6) dX6_entry_6 (by decide) rfl ?_
    refine wp_aloadN (pc := 8) dX6_entry_8 rfl ?_
    refine wp_ifnonnull_n (pc := 10) dX6_entry_10 ?_
    refine wp_ldc (pc := 13) (v := -1000001) dX6_entry_13 cn_LevelStore_89 ?_
    refine wp_goto (pc := 15) (tgt := 29) dX6_entry_15 (by decide) ?_
    refine wp_ret (pc := 29) dX6_entry_29 rfl (by first | trivial | exact Or.inl rfl | exact Or.inr rfl | assumption) ?_
    exact cP.id h
  | some F =>
    have e : σ.entry l i k w = (toldE F.es k w, σ) := by unfold St.entry; rw [hO]
    rw [e]
    first | refine wp_aload_n (pc := 0) dX6_entry_0 rfl ?_ | refine wp_aload_nN (pc := 0) dX6_entry_0 rfl ?_
    refine wp_iload_n (pc := 1) dX6_entry_1 rfl ?_
    refine wp_iload_n (pc := 2) dX6_entry_2 rfl ?_
    refine cv_LevelStore_208 (pc := 3) (s_fileAt h hO) rfl dX6_entry_3 (by first | assumption | exact Fx.ok (by assumption) (by decide)) ⟨by decide, by decide, Nat.zero_le _, Nat.zero_le _⟩ (Nat.le_of_ble_eq_true rfl) (fun v h hp => ?_)
    obtain ⟨rfl, q, rfl, hS, hI⟩ := hp
    have oq := hS.2.1
    have rq := hS.2.2.1
    have orq := hS.2.2.2.1
    obtain ⟨i1, i2, i3, hle, f, hf, hrl⟩ := id hI
    first | refine wp_astore (pc := 6) dX6_entry_6 (by decide) rfl ?_ | refine wp_astoreN (pc := 6) dX6_entry_6 (by decide) rfl ?_
    first | refine wp_aload (pc := 8) dX6_entry_8 rfl ?_ | refine wp_aloadN (pc := 8) dX6_entry_8 rfl ?_
    refine wp_ifnonnull_r (pc := 10) (tgt := 18) dX6_entry_10 (by decide) ?_
    first | refine wp_aload (pc := 18) dX6_entry_18 rfl ?_ | refine wp_aloadN (pc := 18) dX6_entry_18 rfl ?_
    refine wp_getR (pc := 20) dX6_entry_20 fl_LevelStore_216 (by first | assumption | exact Fx.ok (by assumption) (by decide)) rfl (by first | assumption | exact Fx.ref (by assumption) rfl) ?_
    refine wp_iload_n (pc := 23) dX6_entry_23 rfl ?_
    refine wp_iload (pc := 24) dX6_entry_24 rfl ?_
    refine cv_LevelStore_229 (pc := 26) (s_X4_told hS.2.2.2 hf (by omega) k w) rfl dX6_entry_26 (by first | assumption | exact Fx.ok (by assumption) (by decide)) ⟨by decide, by decide, Nat.zero_le _, Nat.zero_le _⟩ (Nat.le_of_ble_eq_true rfl) (fun v h hp => ?_)
    obtain ⟨rfl, rfl⟩ := hp
    refine wp_ret (pc := 29) dX6_entry_29 rfl (by first | trivial | exact Or.inl rfl | exact Or.inr rfl | assumption) ?_
    exact cP.id2 h (by rw [told_eq hrl])
theorem s_log (h : RC σ n S R I A P sp) (hl : σ.log.length ≤ 24) (k w : Int32) : wp 2 43 0 0 MX6_log 0 [(0, .ref 3), (1, .int k), (2, .int w)] [] (n, S, R, I) (cP I n S R (σ.logA k w)) := by
  have hX := h.fx
  obtain ⟨g, hg, hgl⟩ := h.lg
  first | refine wp_aload_n (pc := 0) dX6_log_0 rfl ?_ | refine wp_aload_nN (pc := 0) dX6_log_0 rfl ?_
  refine wp_getR (pc := 1) dX6_log_1 fl_LevelStore_14 (by first | assumption | exact Fx.ok (by assumption) (by decide)) rfl (by first | assumption | exact Fx.ref (by assumption) rfl) ?_
  refine wp_iload_n (pc := 4) dX6_log_4 rfl ?_
  refine wp_iload_n (pc := 5) dX6_log_5 rfl ?_
  refine cv_LevelStore_229 (pc := 6) (s_X4_told hX.log hg hl k w) rfl dX6_log_6 (by first | assumption | exact Fx.ok (by assumption) (by decide)) ⟨by decide, by decide, Nat.zero_le _, Nat.zero_le _⟩ (Nat.le_of_ble_eq_true rfl) (fun v h hp => ?_)
  obtain ⟨rfl, rfl⟩ := hp
  refine wp_ret (pc := 9) dX6_log_9 rfl (by first | trivial | exact Or.inl rfl | exact Or.inr rfl | assumption) ?_
  exact cP.id2 h (by rw [told_eq hgl]; rfl)
theorem s_byteAt (h : RC σ n S R I A P sp) (i : Int32) : wp 1 21 0 0 MX6_byteAt 0 [(0, .ref 3), (1, .int i)] [] (n, S, R, I) (cP I n S R (σ.byteAt i)) := by
  have hX := h.fx
  have z : (S 21).2 = 1500 := hX.len (by decide)
  first | refine wp_aload_n (pc := 0) dX6_byteAt_0 rfl ?_ | refine wp_aload_nN (pc := 0) dX6_byteAt_0 rfl ?_
  refine wp_getR (pc := 1) dX6_byteAt_1 fl_LevelStore_36 (by first | assumption | exact Fx.ok (by assumption) (by decide)) rfl (by first | assumption | exact Fx.ref (by assumption) rfl) ?_
  refine wp_iload_n (pc := 4) dX6_byteAt_4 rfl ?_
  refine cv_LevelStore_232 (pc := 5) (s_X0_has hX i) rfl dX6_byteAt_5 (by first | assumption | exact Fx.ok (by assumption) (by decide)) ⟨by decide, by decide, Nat.zero_le _, Nat.zero_le _⟩ (Nat.le_of_ble_eq_true rfl) (fun v h hp => ?_)
  obtain ⟨rfl, rfl⟩ := hp
  refine wp_if_eq (pc := 8) (tgt := 23) dX6_byteAt_8 (by decide) (fun hc => ?_) (fun hc => ?_)
  · have hv := ite01 hc
    refine wp_ldc (pc := 23) (v := -1000002) dX6_byteAt_23 cn_LevelStore_60 ?_
    refine wp_ret (pc := 25) dX6_byteAt_25 rfl (by first | trivial | exact Or.inl rfl | exact Or.inr rfl | assumption) ?_
    first | exact cP.id2 h (by unfold St.byteAt; rw [if_neg hv]) | exact cP.id2 h (by rw [h.b, tI_c]; unfold St.byteAt; rw [if_pos hv])
  · have hv := ite01n hc
    first | refine wp_aload_n (pc := 11) dX6_byteAt_11 rfl ?_ | refine wp_aload_nN (pc := 11) dX6_byteAt_11 rfl ?_
    refine wp_getR (pc := 12) dX6_byteAt_12 fl_LevelStore_36 (by first | assumption | exact Fx.ok (by assumption) (by decide)) rfl (by first | assumption | exact Fx.ref (by assumption) rfl) ?_
    refine wp_getR (pc := 15) dX6_byteAt_15 fl_LevelStore_235 (by first | assumption | exact Fx.ok (by assumption) (by decide)) rfl (by first | assumption | exact Fx.ref (by assumption) rfl) ?_
    refine wp_iload_n (pc := 18) dX6_byteAt_18 rfl ?_
    refine wp_iaload (pc := 19) dX6_byteAt_19 (by first | assumption | exact Fx.ok (by assumption) (by decide)) (in_I hv.1 (by rw [z]; exact hv.2)) ?_
    refine wp_goto (pc := 20) (tgt := 25) dX6_byteAt_20 (by decide) ?_
    refine wp_ret (pc := 25) dX6_byteAt_25 rfl (by first | trivial | exact Or.inl rfl | exact Or.inr rfl | assumption) ?_
    first | exact cP.id2 h (by unfold St.byteAt; rw [if_neg hv]) | exact cP.id2 h (by rw [h.b, tI_c]; unfold St.byteAt; rw [if_pos hv])
theorem s_filesInForce_loop (h : RC σ n S R I A P sp) (post : ab_Po) (hpost : post (some (.int (acc4 (fun k => nI (σ.FS k).length) 4))) (n, S, R, I)) (L5 : List (Nat × Value)) :
    ∀ (d t : Nat) (y m : Int32) (L : List (Nat × Value)), 4 = t + d → y = nI t → m = acc4 (fun k => nI (σ.FS k).length) t → ab_sub L [(0, .ref 3), (1, .int m), (2, .ref 9), (3, .int 4), (4, .int y)] → wp 2 40 0 0 MX6_filesInForce 13 L [] (n, S, R, I) post := by
  have hX := h.fx
  have z : (S 9).2 = 4 := hX.len (by decide)
  have o9 : ab_ok n S 9 11 := hX.ok (by decide)
  intro d
  induction d with
  | zero =>
    intro t y m L ht hy hm hL0
    refine wp_loc hL0 ?_
    have ey : y.toInt = t := by rw [hy, tI_n (by omega)]
    refine wp_iload (pc := 13) dX6_filesInForce_13 rfl ?_
    refine wp_iload_n (pc := 15) dX6_filesInForce_15 rfl ?_
    refine wp_icmp_ge (pc := 16) (tgt := 39) dX6_filesInForce_16 (by decide) (fun hc => ?_) (fun hc => ?_)
    · skip
      refine wp_iload_n (pc := 39) dX6_filesInForce_39 rfl ?_
      refine wp_ret (pc := 40) dX6_filesInForce_40 rfl (by first | trivial | exact Or.inl rfl | exact Or.inr rfl | assumption) ?_
      rw [hm, show t = 4 by omega]; exact hpost
    · rw [tl_4] at hc; omega
  | succ d ih =>
    intro t y m L ht hy hm hL0
    refine wp_loc hL0 ?_
    have ey : y.toInt = t := by rw [hy, tI_n (by omega)]
    have ec : y.toNatClampNeg = t := by rw [tI_c]; omega
    obtain ⟨hL, hFl, hF⟩ := h.lvk (k := t) (by omega) (by omega)
    have ofk := hF.1
    have hr : R 9 y.toNatClampNeg = some (fk t) := by rw [ec]; exact lv_ref hX (by omega)
    refine wp_iload (pc := 13) dX6_filesInForce_13 rfl ?_
    refine wp_iload_n (pc := 15) dX6_filesInForce_15 rfl ?_
    refine wp_icmp_ge (pc := 16) (tgt := 39) dX6_filesInForce_16 (by decide) (fun hc => ?_) (fun hc => ?_)
    · rw [tl_4] at hc; omega
    · skip
      first | refine wp_aload_n (pc := 19) dX6_filesInForce_19 rfl ?_ | refine wp_aload_nN (pc := 19) dX6_filesInForce_19 rfl ?_
      refine wp_iload (pc := 20) dX6_filesInForce_20 rfl ?_
      refine wp_aaload (pc := 22) dX6_filesInForce_22 (Or.inl o9) (in_I (by omega) (by rw [z]; omega)) (hr) ?_
      first | refine wp_astore (pc := 23) dX6_filesInForce_23 (by decide) rfl ?_ | refine wp_astoreN (pc := 23) dX6_filesInForce_23 (by decide) rfl ?_
      refine wp_iload_n (pc := 25) dX6_filesInForce_25 rfl ?_
      first | refine wp_aload (pc := 26) dX6_filesInForce_26 rfl ?_ | refine wp_aloadN (pc := 26) dX6_filesInForce_26 rfl ?_
      refine cv_LevelStore_154 (pc := 28) (s_X1_size hF hL) rfl dX6_filesInForce_28 (by assumption) ⟨by decide, by decide, Nat.zero_le _, Nat.zero_le _⟩ (Nat.le_of_ble_eq_true rfl) (fun v h hp => ?_)
      obtain ⟨rfl, rfl⟩ := hp
      refine wp_iadd (pc := 31) dX6_filesInForce_31 ?_
      refine wp_istore_n (pc := 32) dX6_filesInForce_32 (by decide) rfl ?_
      refine wp_iinc (pc := 33) dX6_filesInForce_33 rfl (by decide) rfl ?_
      refine wp_goto (pc := 36) (tgt := 13) dX6_filesInForce_36 (by decide) ?_
      exact ih (t + 1) _ _ _ (by omega) (by rw [hy]; exact nI_i1 t) (by rw [hm, hFl.1]; rfl) ⟨rfl, rfl, rfl, rfl, rfl, trivial⟩
theorem s_filesInForce (h : RC σ n S R I A P sp) : wp 2 40 0 0 MX6_filesInForce 0 [(0, .ref 3)] [] (n, S, R, I) (fun v h => h = (n, S, R, I) ∧ v = some (.int (acc4 (fun k => nI (σ.FS k).length) 4))) := by
  have hX := h.fx
  have z : (S 9).2 = 4 := hX.len (by decide)
  have o9 : ab_ok n S 9 11 := hX.ok (by decide)
  refine wp_iconst (pc := 0) (v := 0) dX6_filesInForce_0 (by decide) ?_
  refine wp_istore_n (pc := 1) dX6_filesInForce_1 (by decide) rfl ?_
  first | refine wp_aload_n (pc := 2) dX6_filesInForce_2 rfl ?_ | refine wp_aload_nN (pc := 2) dX6_filesInForce_2 rfl ?_
  refine wp_getR (pc := 3) dX6_filesInForce_3 fl_LevelStore_25 (by first | assumption | exact Fx.ok (by assumption) (by decide)) rfl (by first | assumption | exact Fx.ref (by assumption) rfl) ?_
  first | refine wp_astore_n (pc := 6) dX6_filesInForce_6 (by decide) rfl ?_ | refine wp_astore_nN (pc := 6) dX6_filesInForce_6 (by decide) rfl ?_
  first | refine wp_aload_n (pc := 7) dX6_filesInForce_7 rfl ?_ | refine wp_aload_nN (pc := 7) dX6_filesInForce_7 rfl ?_
  first | refine wp_alen (pc := 8) dX6_filesInForce_8 (Or.inl (by assumption)) ?_ | refine wp_alen (pc := 8) dX6_filesInForce_8 (Or.inr (Or.inl (by assumption))) ?_ | refine wp_alen (pc := 8) dX6_filesInForce_8 (Or.inr (Or.inr (Or.inl (by assumption)))) ?_ | refine wp_alen (pc := 8) dX6_filesInForce_8 (Or.inr (Or.inr (Or.inr (by assumption)))) ?_
  rw [z]
  refine wp_istore_n (pc := 9) dX6_filesInForce_9 (by decide) rfl ?_
  refine wp_iconst (pc := 10) (v := 0) dX6_filesInForce_10 (by decide) ?_
  refine wp_istore (pc := 11) dX6_filesInForce_11 (by decide) rfl ?_
  exact s_filesInForce_loop h _ ⟨rfl, rfl⟩ [] 4 0 0 0 _ rfl rfl rfl ⟨rfl, rfl, rfl, rfl, rfl, trivial⟩
theorem s_bytesInForce_loop (h : RC σ n S R I A P sp) (post : ab_Po) (hpost : post (some (.int (acc4 (fun k => (σ.FS k).foldl smB 0) 4))) (n, S, R, I)) (L5 : List (Nat × Value)) :
    ∀ (d t : Nat) (y m : Int32) (L : List (Nat × Value)), 4 = t + d → y = nI t → m = acc4 (fun k => (σ.FS k).foldl smB 0) t → ab_sub L [(0, .ref 3), (1, .int m), (2, .ref 9), (3, .int 4), (4, .int y)] → wp 5 108 0 0 MX6_bytesInForce 13 L [] (n, S, R, I) post := by
  have hX := h.fx
  have z : (S 9).2 = 4 := hX.len (by decide)
  have o9 : ab_ok n S 9 11 := hX.ok (by decide)
  intro d
  induction d with
  | zero =>
    intro t y m L ht hy hm hL0
    refine wp_loc hL0 ?_
    have ey : y.toInt = t := by rw [hy, tI_n (by omega)]
    refine wp_iload (pc := 13) dX6_bytesInForce_13 rfl ?_
    refine wp_iload_n (pc := 15) dX6_bytesInForce_15 rfl ?_
    refine wp_icmp_ge (pc := 16) (tgt := 39) dX6_bytesInForce_16 (by decide) (fun hc => ?_) (fun hc => ?_)
    · skip
      refine wp_iload_n (pc := 39) dX6_bytesInForce_39 rfl ?_
      refine wp_ret (pc := 40) dX6_bytesInForce_40 rfl (by first | trivial | exact Or.inl rfl | exact Or.inr rfl | assumption) ?_
      rw [hm, show t = 4 by omega]; exact hpost
    · rw [tl_4] at hc; omega
  | succ d ih =>
    intro t y m L ht hy hm hL0
    refine wp_loc hL0 ?_
    have ey : y.toInt = t := by rw [hy, tI_n (by omega)]
    have ec : y.toNatClampNeg = t := by rw [tI_c]; omega
    obtain ⟨hL, hFl, hF⟩ := h.lvk (k := t) (by omega) (by omega)
    have ofk := hF.1
    have hr : R 9 y.toNatClampNeg = some (fk t) := by rw [ec]; exact lv_ref hX (by omega)
    refine wp_iload (pc := 13) dX6_bytesInForce_13 rfl ?_
    refine wp_iload_n (pc := 15) dX6_bytesInForce_15 rfl ?_
    refine wp_icmp_ge (pc := 16) (tgt := 39) dX6_bytesInForce_16 (by decide) (fun hc => ?_) (fun hc => ?_)
    · rw [tl_4] at hc; omega
    · skip
      first | refine wp_aload_n (pc := 19) dX6_bytesInForce_19 rfl ?_ | refine wp_aload_nN (pc := 19) dX6_bytesInForce_19 rfl ?_
      refine wp_iload (pc := 20) dX6_bytesInForce_20 rfl ?_
      refine wp_aaload (pc := 22) dX6_bytesInForce_22 (Or.inl o9) (in_I (by omega) (by rw [z]; omega)) (hr) ?_
      first | refine wp_astore (pc := 23) dX6_bytesInForce_23 (by decide) rfl ?_ | refine wp_astoreN (pc := 23) dX6_bytesInForce_23 (by decide) rfl ?_
      refine wp_iload_n (pc := 25) dX6_bytesInForce_25 rfl ?_
      first | refine wp_aload (pc := 26) dX6_bytesInForce_26 rfl ?_ | refine wp_aloadN (pc := 26) dX6_bytesInForce_26 rfl ?_
      refine cv_LevelStore_313 (pc := 28) (s_X1_bytes hF hL hFl) rfl dX6_bytesInForce_28 (by assumption) ⟨by decide, by decide, Nat.zero_le _, Nat.zero_le _⟩ (Nat.le_of_ble_eq_true rfl) (fun v h hp => ?_)
      obtain ⟨rfl, rfl⟩ := hp
      refine wp_iadd (pc := 31) dX6_bytesInForce_31 ?_
      refine wp_istore_n (pc := 32) dX6_bytesInForce_32 (by decide) rfl ?_
      refine wp_iinc (pc := 33) dX6_bytesInForce_33 rfl (by decide) rfl ?_
      refine wp_goto (pc := 36) (tgt := 13) dX6_bytesInForce_36 (by decide) ?_
      exact ih (t + 1) _ _ _ (by omega) (by rw [hy]; exact nI_i1 t) (by rw [hm]; rfl) ⟨rfl, rfl, rfl, rfl, rfl, trivial⟩
theorem s_bytesInForce (h : RC σ n S R I A P sp) : wp 5 108 0 0 MX6_bytesInForce 0 [(0, .ref 3)] [] (n, S, R, I) (fun v h => h = (n, S, R, I) ∧ v = some (.int (acc4 (fun k => (σ.FS k).foldl smB 0) 4))) := by
  have hX := h.fx
  have z : (S 9).2 = 4 := hX.len (by decide)
  have o9 : ab_ok n S 9 11 := hX.ok (by decide)
  refine wp_iconst (pc := 0) (v := 0) dX6_bytesInForce_0 (by decide) ?_
  refine wp_istore_n (pc := 1) dX6_bytesInForce_1 (by decide) rfl ?_
  first | refine wp_aload_n (pc := 2) dX6_bytesInForce_2 rfl ?_ | refine wp_aload_nN (pc := 2) dX6_bytesInForce_2 rfl ?_
  refine wp_getR (pc := 3) dX6_bytesInForce_3 fl_LevelStore_25 (by first | assumption | exact Fx.ok (by assumption) (by decide)) rfl (by first | assumption | exact Fx.ref (by assumption) rfl) ?_
  first | refine wp_astore_n (pc := 6) dX6_bytesInForce_6 (by decide) rfl ?_ | refine wp_astore_nN (pc := 6) dX6_bytesInForce_6 (by decide) rfl ?_
  first | refine wp_aload_n (pc := 7) dX6_bytesInForce_7 rfl ?_ | refine wp_aload_nN (pc := 7) dX6_bytesInForce_7 rfl ?_
  first | refine wp_alen (pc := 8) dX6_bytesInForce_8 (Or.inl (by assumption)) ?_ | refine wp_alen (pc := 8) dX6_bytesInForce_8 (Or.inr (Or.inl (by assumption))) ?_ | refine wp_alen (pc := 8) dX6_bytesInForce_8 (Or.inr (Or.inr (Or.inl (by assumption)))) ?_ | refine wp_alen (pc := 8) dX6_bytesInForce_8 (Or.inr (Or.inr (Or.inr (by assumption)))) ?_
  rw [z]
  refine wp_istore_n (pc := 9) dX6_bytesInForce_9 (by decide) rfl ?_
  refine wp_iconst (pc := 10) (v := 0) dX6_bytesInForce_10 (by decide) ?_
  refine wp_istore (pc := 11) dX6_bytesInForce_11 (by decide) rfl ?_
  exact s_bytesInForce_loop h _ ⟨rfl, rfl⟩ [] 4 0 0 0 _ rfl rfl rfl ⟨rfl, rfl, rfl, rfl, rfl, trivial⟩
theorem s_entriesInForce_loop (h : RC σ n S R I A P sp) (post : ab_Po) (hpost : post (some (.int (acc4 (fun k => (σ.FS k).foldl smE 0) 4))) (n, S, R, I)) (L5 : List (Nat × Value)) :
    ∀ (d t : Nat) (y m : Int32) (L : List (Nat × Value)), 4 = t + d → y = nI t → m = acc4 (fun k => (σ.FS k).foldl smE 0) t → ab_sub L [(0, .ref 3), (1, .int m), (2, .ref 9), (3, .int 4), (4, .int y)] → wp 5 108 0 0 MX6_entriesInForce 13 L [] (n, S, R, I) post := by
  have hX := h.fx
  have z : (S 9).2 = 4 := hX.len (by decide)
  have o9 : ab_ok n S 9 11 := hX.ok (by decide)
  intro d
  induction d with
  | zero =>
    intro t y m L ht hy hm hL0
    refine wp_loc hL0 ?_
    have ey : y.toInt = t := by rw [hy, tI_n (by omega)]
    refine wp_iload (pc := 13) dX6_entriesInForce_13 rfl ?_
    refine wp_iload_n (pc := 15) dX6_entriesInForce_15 rfl ?_
    refine wp_icmp_ge (pc := 16) (tgt := 39) dX6_entriesInForce_16 (by decide) (fun hc => ?_) (fun hc => ?_)
    · skip
      refine wp_iload_n (pc := 39) dX6_entriesInForce_39 rfl ?_
      refine wp_ret (pc := 40) dX6_entriesInForce_40 rfl (by first | trivial | exact Or.inl rfl | exact Or.inr rfl | assumption) ?_
      rw [hm, show t = 4 by omega]; exact hpost
    · rw [tl_4] at hc; omega
  | succ d ih =>
    intro t y m L ht hy hm hL0
    refine wp_loc hL0 ?_
    have ey : y.toInt = t := by rw [hy, tI_n (by omega)]
    have ec : y.toNatClampNeg = t := by rw [tI_c]; omega
    obtain ⟨hL, hFl, hF⟩ := h.lvk (k := t) (by omega) (by omega)
    have ofk := hF.1
    have hr : R 9 y.toNatClampNeg = some (fk t) := by rw [ec]; exact lv_ref hX (by omega)
    refine wp_iload (pc := 13) dX6_entriesInForce_13 rfl ?_
    refine wp_iload_n (pc := 15) dX6_entriesInForce_15 rfl ?_
    refine wp_icmp_ge (pc := 16) (tgt := 39) dX6_entriesInForce_16 (by decide) (fun hc => ?_) (fun hc => ?_)
    · rw [tl_4] at hc; omega
    · skip
      first | refine wp_aload_n (pc := 19) dX6_entriesInForce_19 rfl ?_ | refine wp_aload_nN (pc := 19) dX6_entriesInForce_19 rfl ?_
      refine wp_iload (pc := 20) dX6_entriesInForce_20 rfl ?_
      refine wp_aaload (pc := 22) dX6_entriesInForce_22 (Or.inl o9) (in_I (by omega) (by rw [z]; omega)) (hr) ?_
      first | refine wp_astore (pc := 23) dX6_entriesInForce_23 (by decide) rfl ?_ | refine wp_astoreN (pc := 23) dX6_entriesInForce_23 (by decide) rfl ?_
      refine wp_iload_n (pc := 25) dX6_entriesInForce_25 rfl ?_
      first | refine wp_aload (pc := 26) dX6_entriesInForce_26 rfl ?_ | refine wp_aloadN (pc := 26) dX6_entriesInForce_26 rfl ?_
      refine cv_LevelStore_315 (pc := 28) (s_X1_entries hF hL hFl) rfl dX6_entriesInForce_28 (by assumption) ⟨by decide, by decide, Nat.zero_le _, Nat.zero_le _⟩ (Nat.le_of_ble_eq_true rfl) (fun v h hp => ?_)
      obtain ⟨rfl, rfl⟩ := hp
      refine wp_iadd (pc := 31) dX6_entriesInForce_31 ?_
      refine wp_istore_n (pc := 32) dX6_entriesInForce_32 (by decide) rfl ?_
      refine wp_iinc (pc := 33) dX6_entriesInForce_33 rfl (by decide) rfl ?_
      refine wp_goto (pc := 36) (tgt := 13) dX6_entriesInForce_36 (by decide) ?_
      exact ih (t + 1) _ _ _ (by omega) (by rw [hy]; exact nI_i1 t) (by rw [hm]; rfl) ⟨rfl, rfl, rfl, rfl, rfl, trivial⟩
theorem s_entriesInForce (h : RC σ n S R I A P sp) : wp 5 108 0 0 MX6_entriesInForce 0 [(0, .ref 3)] [] (n, S, R, I) (fun v h => h = (n, S, R, I) ∧ v = some (.int (acc4 (fun k => (σ.FS k).foldl smE 0) 4))) := by
  have hX := h.fx
  have z : (S 9).2 = 4 := hX.len (by decide)
  have o9 : ab_ok n S 9 11 := hX.ok (by decide)
  refine wp_iconst (pc := 0) (v := 0) dX6_entriesInForce_0 (by decide) ?_
  refine wp_istore_n (pc := 1) dX6_entriesInForce_1 (by decide) rfl ?_
  first | refine wp_aload_n (pc := 2) dX6_entriesInForce_2 rfl ?_ | refine wp_aload_nN (pc := 2) dX6_entriesInForce_2 rfl ?_
  refine wp_getR (pc := 3) dX6_entriesInForce_3 fl_LevelStore_25 (by first | assumption | exact Fx.ok (by assumption) (by decide)) rfl (by first | assumption | exact Fx.ref (by assumption) rfl) ?_
  first | refine wp_astore_n (pc := 6) dX6_entriesInForce_6 (by decide) rfl ?_ | refine wp_astore_nN (pc := 6) dX6_entriesInForce_6 (by decide) rfl ?_
  first | refine wp_aload_n (pc := 7) dX6_entriesInForce_7 rfl ?_ | refine wp_aload_nN (pc := 7) dX6_entriesInForce_7 rfl ?_
  first | refine wp_alen (pc := 8) dX6_entriesInForce_8 (Or.inl (by assumption)) ?_ | refine wp_alen (pc := 8) dX6_entriesInForce_8 (Or.inr (Or.inl (by assumption))) ?_ | refine wp_alen (pc := 8) dX6_entriesInForce_8 (Or.inr (Or.inr (Or.inl (by assumption)))) ?_ | refine wp_alen (pc := 8) dX6_entriesInForce_8 (Or.inr (Or.inr (Or.inr (by assumption)))) ?_
  rw [z]
  refine wp_istore_n (pc := 9) dX6_entriesInForce_9 (by decide) rfl ?_
  refine wp_iconst (pc := 10) (v := 0) dX6_entriesInForce_10 (by decide) ?_
  refine wp_istore (pc := 11) dX6_entriesInForce_11 (by decide) rfl ?_
  exact s_entriesInForce_loop h _ ⟨rfl, rfl⟩ [] 4 0 0 0 _ rfl rfl rfl ⟨rfl, rfl, rfl, rfl, rfl, trivial⟩
end SM2
