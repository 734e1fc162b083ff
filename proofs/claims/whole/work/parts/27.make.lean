/-! A FRESH FILE -/
theorem sf_disj {n : Nat} {S : ab_SH} {R : ab_RR} {q q' : Nat} (h : sf_S n S R q) (h' : sf_S n S R q') (hne : q ≠ q') : q + 4 < q' ∨ q' + 4 < q := by
  have a0 := h.2.1.2.2
  have b0 := h'.2.1.2.2
  have a1 := h.2.2.2.1.2.2
  have b1 := h'.2.2.2.1.2.2
  have a2 := h.2.2.2.2.2.2.2.1.2.2
  have b2 := h'.2.2.2.2.2.2.2.1.2.2
  have a3 := h.2.2.2.2.2.2.2.2.1.2.2
  have b3 := h'.2.2.2.2.2.2.2.2.1.2.2
  have a4 := h.2.2.2.2.2.2.2.2.2.1.2.2
  have b4 := h'.2.2.2.2.2.2.2.2.2.1.2.2
  by_cases g1 : q' = q + 1
  · rw [g1] at b0; omega
  by_cases g2 : q' = q + 2
  · rw [g2] at b0; omega
  by_cases g3 : q' = q + 3
  · rw [g3] at b0; omega
  by_cases g4 : q' = q + 4
  · rw [g4] at b0; omega
  by_cases k1 : q = q' + 1
  · rw [k1] at a0; omega
  by_cases k2 : q = q' + 2
  · rw [k2] at a0; omega
  by_cases k3 : q = q' + 3
  · rw [k3] at a0; omega
  by_cases k4 : q = q' + 4
  · rw [k4] at a0; omega
  omega
section MAKE
variable {n : Nat} {S : ab_SH} {R : ab_RR} {I : ab_II} {A : AC} {P : Nat → List Nat} {FS : Nat → List FA}
/-- a file that is in no row changes -/
theorem LF.keepq {I' : ab_II} {q : Nat} (h : LF n S R I A P FS) (hS : sf_S n S R q) (hq : ∀ j, j < 6 → q ∉ P j) (h1 : ∀ k, k < 6 → I' (xk k) = I (xk k)) (h2 : ∀ j, 66 ≤ j → (j < q ∨ q + 4 < j) → I' j = I j) : LF n S R I' A P FS := by
  refine ⟨fun k hk => ⟨(h.1 k hk).1.keepI (h1 k hk), ⟨(h.1 k hk).2.1.1, fun i y G hy hG => ?_⟩, (h.1 k hk).2.2⟩, h.2⟩
  obtain ⟨a, b⟩ := (h.1 k hk).2.1.2 i y G hy hG
  have hne : q ≠ y := fun e => hq k hk (by rw [e]; exact List.mem_of_getElem? hy)
  have := sf_disj hS a hne
  have := a.1
  exact ⟨a, b.keep (fun j h3 h4 => h2 j (by omega) (by omega))⟩
theorem LF.grow {n' : Nat} {S' : ab_SH} {R' : ab_RR} {I' : ab_II} (h : LF n S R I A P FS) (hX : Fx n S R) (he : ab_ex n S R n' S' R') (hR : ∀ j, j < n → R' j = R j) (hI : ∀ j, j < n → I' j = I j) : LF n' S' R' I' A P FS := by
  have h66 := hX.1
  refine ⟨fun k hk => ⟨(h.1 k hk).1.other he (hR _ (by have := xk_in hk; omega)) (fun _ => hR _ ((h.1 k hk).1.arr_lt h66)) (hI _ (by have := xk_in hk; omega)), (h.1 k hk).2.1.ex he (fun j _ hj => hI j hj), (h.1 k hk).2.2⟩, h.2⟩
theorem s_X4_init {r cap : Nat} (hr : ab_ok n S r 5) (hc : cap ≤ 10000) : wp 1 23 3 (3 * cap) MX4_init 0 [(0, .ref r), (1, .int (nI cap))] [] (n, S, R, I) (fun v h => v = none ∧ ∃ R', h = (n + 3, ab_nS (ab_nS (ab_nS S n 9 cap) (n + 1) 9 cap) (n + 2) 9 cap, R', ab_nI (ab_nI (ab_nI I n) (n + 1)) (n + 2)) ∧ R' r 0 = some n ∧ R' r 1 = some (n + 1) ∧ R' r 2 = some (n + 2) ∧ (∀ j, j < n → j ≠ r → R' j = R j)) := by
  have e1 : (if (0 : Int32) < nI cap then nI cap else 0) = nI cap := by
    by_cases h0 : (0 : Int32) < nI cap
    · rw [if_pos h0]
    · rw [if_neg h0]
      have h1 := Int.not_lt.mp (fun z => h0 (Int32.lt_iff_toInt_lt.mpr z))
      rw [tl_0, tI_n (by omega)] at h1
      exact tI_eq (by rw [tl_0, tI_n (by omega)]; omega)
  have o1 : ab_ok (n + 1) (ab_nS S n 9 cap) r 5 := hr.new
  have o2 : ab_ok (n + 1 + 1) (ab_nS (ab_nS S n 9 cap) (n + 1) 9 cap) r 5 := o1.new
  have o3 : ab_ok (n + 1 + 1 + 1) (ab_nS (ab_nS (ab_nS S n 9 cap) (n + 1) 9 cap) (n + 1 + 1) 9 cap) r 5 := o2.new
  have hrn := hr.2.1
  first | refine wp_aload_n (pc := 0) dX4_init_0 rfl ?_ | refine wp_aload_nN (pc := 0) dX4_init_0 rfl ?_
  refine wp_objInit (pc := 1) dX4_init_1 ml_Row_3 im_objInit co_objInit (by decide) (Nat.le_of_ble_eq_true rfl) ?_
  refine wp_iconst (pc := 4) (v := 0) dX4_init_4 (by decide) ?_
  refine wp_iload_n (pc := 5) dX4_init_5 rfl ?_
  refine wp_max (pc := 6) dX4_init_6 ml_Row_9 (by decide) (Nat.le_of_ble_eq_true rfl) ?_
  rw [e1]
  refine wp_istore_n (pc := 9) dX4_init_9 (by decide) rfl ?_
  first | refine wp_aload_n (pc := 10) dX4_init_10 rfl ?_ | refine wp_aload_nN (pc := 10) dX4_init_10 rfl ?_
  refine wp_iload_n (pc := 11) dX4_init_11 rfl ?_
  refine wp_newI (pc := 12) (N := cap) dX4_init_12 ac_int (nI_pos (by omega)) (nI_c (by omega)) (by omega) (by omega) (by omega) ?_
  refine wp_putR (pc := 14) dX4_init_14 fl_Row_15 (by assumption) rfl (Or.inr ⟨rfl, rfl, rfl⟩) ?_
  first | refine wp_aload_n (pc := 17) dX4_init_17 rfl ?_ | refine wp_aload_nN (pc := 17) dX4_init_17 rfl ?_
  refine wp_iload_n (pc := 18) dX4_init_18 rfl ?_
  refine wp_newI (pc := 19) (N := cap) dX4_init_19 ac_int (nI_pos (by omega)) (nI_c (by omega)) (by omega) (by omega) (by omega) ?_
  refine wp_putR (pc := 21) dX4_init_21 fl_Row_21 (by assumption) rfl (Or.inr ⟨rfl, rfl, rfl⟩) ?_
  first | refine wp_aload_n (pc := 24) dX4_init_24 rfl ?_ | refine wp_aload_nN (pc := 24) dX4_init_24 rfl ?_
  refine wp_iload_n (pc := 25) dX4_init_25 rfl ?_
  refine wp_newI (pc := 26) (N := cap) dX4_init_26 ac_int (nI_pos (by omega)) (nI_c (by omega)) (by omega) (by omega) (by omega) ?_
  refine wp_putR (pc := 28) dX4_init_28 fl_Row_24 (by assumption) rfl (Or.inr ⟨rfl, rfl, rfl⟩) ?_
  refine wp_retv (pc := 31) dX4_init_31 rfl ?_
  refine ⟨rfl, _, rfl, ?_, ?_, ?_, fun j hj hjr => ?_⟩
  · simp [ab_u2, va_up, show r ≠ n by omega, show r ≠ n + 1 by omega, show r ≠ n + 1 + 1 by omega]
  · simp [ab_u2, va_up, show r ≠ n by omega, show r ≠ n + 1 by omega, show r ≠ n + 1 + 1 by omega]
  · simp [ab_u2, va_up, show r ≠ n by omega, show r ≠ n + 1 by omega, show r ≠ n + 1 + 1 by omega]
  · funext i
    simp [ab_u2, va_up, hjr, show j ≠ n by omega, show j ≠ n + 1 by omega, show j ≠ n + 1 + 1 by omega]
/-- new SortedFile() -/
theorem s_X5_init (hX : Fx n S R) : wp 2 45 4 76 MX5_init 0 [(0, .ref n)] [] (n + 1, ab_nS S n 6 0, ab_nR R n, ab_nI I n) (fun v h => v = none ∧ ∃ n' S' R' I', h = (n', S', R', I') ∧ ab_ex n S R n' S' R' ∧ sf_S n' S' R' n ∧ sf_I I' n (0, 0, 0, []) ∧ (∀ j, j < n → R' j = R j) ∧ (∀ j, j < n → I' j = I j)) := by
  have h66 := hX.1
  have o : ab_ok (n + 1) (ab_nS S n 6 0) n 6 := ⟨by omega, by omega, by rw [ab_nS_at]⟩
  have o5 : ab_ok (n + 1 + 1) (ab_nS (ab_nS S n 6 0) (n + 1) 5 0) (n + 1) 5 := ⟨by omega, by omega, by rw [ab_nS_at]⟩
  have o6 : ab_ok (n + 1 + 1 + 3) (ab_nS (ab_nS (ab_nS (ab_nS (ab_nS S n 6 0) (n + 1) 5 0) (n + 1 + 1) 9 24) (n + 1 + 1 + 1) 9 24) (n + 1 + 1 + 2) 9 24) n 6 := o.new.new.new.new
  first | refine wp_aload_n (pc := 0) dX5_init_0 rfl ?_ | refine wp_aload_nN (pc := 0) dX5_init_0 rfl ?_
  refine wp_objInit (pc := 1) dX5_init_1 ml_SortedFile_3 im_objInit co_objInit (by decide) (Nat.le_of_ble_eq_true rfl) ?_
  first | refine wp_aload_n (pc := 4) dX5_init_4 rfl ?_ | refine wp_aload_nN (pc := 4) dX5_init_4 rfl ?_
  refine wp_new (pc := 5) dX5_init_5 ab_k5 cl_SortedFile_9 in_Row ini_Row (by decide) (by decide) ?_
  refine wp_dup (pc := 8) dX5_init_8 rfl ?_
  refine wp_bipush (pc := 9) (v := 24) dX5_init_9 (by decide) ?_
  refine cv_SortedFile_11 (pc := 11) (s_X4_init (cap := 24) o5 (by decide)) rfl dX5_init_11 ⟨by decide, by decide, by decide, by decide⟩ (Nat.le_of_ble_eq_true rfl) (fun v h hp => ?_)
  obtain ⟨rfl, R', rfl, g0, g1, g2, g3⟩ := hp
  refine wp_putR (pc := 14) dX5_init_14 fl_SortedFile_14 (by assumption) rfl (Or.inr ⟨rfl, rfl, rfl⟩) ?_
  refine wp_retv (pc := 17) dX5_init_17 rfl ?_
  refine ⟨rfl, _, _, _, _, rfl, ⟨by omega, fun j hj => ?_, fun j h3 hj k0 k12 => ?_⟩, ⟨by omega, o6, by rw [ab_u2_s], ?_⟩, ?_, fun j hj => ?_, fun j hj => ?_⟩
  · simp [va_up, show j ≠ n by omega, show j ≠ n + 1 by omega, show j ≠ n + 1 + 1 by omega, show j ≠ n + 1 + 1 + 1 by omega, show j ≠ n + 1 + 1 + 2 by omega]
  · rw [ab_u2_r _ _ (by omega), g3 j (by omega) (by omega)]
    simp [va_up, show j ≠ n by omega, show j ≠ n + 1 by omega]
  · refine ⟨⟨by omega, by omega, ?_⟩, ?_, ?_, ?_, ⟨by omega, by omega, ?_⟩, ⟨by omega, by omega, ?_⟩, ⟨by omega, by omega, ?_⟩, ?_, ?_, ?_, by omega, by omega, by omega, by omega⟩
    · simp [va_up]
    · rw [ab_u2_r _ _ (by omega)]; exact g0
    · rw [ab_u2_r _ _ (by omega)]; exact g1
    · rw [ab_u2_r _ _ (by omega)]; exact g2
    · simp [va_up]
    · simp [va_up]
    · simp [va_up]
    · simp [va_up]
    · simp [va_up]
    · simp [va_up]
  · refine ⟨?_, ?_, ?_, Nat.zero_le 24, fun _ => (0, 0, 0), ⟨?_, fun k => ⟨?_, ?_, ?_⟩⟩, rfl⟩ <;> first | (simp [va_up]; done) | (simp [va_up]; rfl) | rfl
  · rw [ab_u2_r _ _ (by omega), g3 j (by omega) (by omega)]
    simp [va_up, show j ≠ n by omega, show j ≠ n + 1 by omega]
  · simp [va_up, show j ≠ n by omega, show j ≠ n + 1 by omega, show j ≠ n + 1 + 1 by omega, show j ≠ n + 1 + 1 + 1 by omega, show j ≠ n + 1 + 1 + 2 by omega]
theorem s_X6_freshFile (hX : Fx n S R) (h : LF n S R I A P FS) : wp 4 107 5 80 MX6_freshFile 0 [(0, .ref 3)] [] (n, S, R, I) (fun v h => ∃ q F n' S' R' I' P' FS', v = some (.ref q) ∧ h = (n', S', R', I') ∧ ab_ex n S R n' S' R' ∧ LF n' S' R' I' A P' FS' ∧ sf_S n' S' R' q ∧ sf_I I' q F ∧ (∀ j, j < 6 → q ∉ P' j) ∧ (∀ j, j < n → j ≠ 19 → I' j = I j) ∧ (∀ k, k ≠ 4 → P' k = P k ∧ FS' k = FS k) ∧ ((P 4).length = (P' 4).length + 1 ∨ ((P 4).length = 0 ∧ (P' 4).length = 0))) := by
  have h66 := hX.1
  have hL4 := (h.1 4 (by decide)).1
  have hlen := hL4.2.2.2.1
  have hcap := hL4.2.2.2.2.1
  have hsz := s_X1_size (hX.fr (k := 4) (by decide)) hL4
  have o3 : ab_ok n S 3 7 := hX.ok (by decide)
  have r5 : R 3 5 = some 18 := hX.ref rfl
  have o18 : ab_ok n S 18 2 := hX.ok (by decide)
  by_cases h0 : (P 4).length = 0
  · have e1 : (nI (P 4).length - 1).toInt = -1 := by rw [h0]; decide +kernel
    first | refine wp_aload_n (pc := 0) dX6_freshFile_0 rfl ?_ | refine wp_aload_nN (pc := 0) dX6_freshFile_0 rfl ?_
    refine wp_getR (pc := 1) dX6_freshFile_1 fl_LevelStore_29 (by assumption) rfl (by assumption) ?_
    first | refine wp_aload_n (pc := 4) dX6_freshFile_4 rfl ?_ | refine wp_aload_nN (pc := 4) dX6_freshFile_4 rfl ?_
    refine wp_getR (pc := 5) dX6_freshFile_5 fl_LevelStore_29 (by assumption) rfl (by assumption) ?_
    refine cv_LevelStore_154 (pc := 8) (hsz) rfl dX6_freshFile_8 (by assumption) ⟨by decide, by decide, Nat.zero_le _, Nat.zero_le _⟩ (Nat.le_of_ble_eq_true rfl) (fun v h hp => ?_)
    obtain ⟨rfl, rfl⟩ := hp
    refine wp_iconst (pc := 11) (v := 1) dX6_freshFile_11 (by decide) ?_
    refine wp_isub (pc := 12) dX6_freshFile_12 ?_
    refine cv_LevelStore_306 (pc := 13) (s_X1_takeOutN (hX.fr (k := 4) (by decide)) hL4 _ (Or.inl (by rw [e1]; decide))) rfl dX6_freshFile_13 (by assumption) ⟨by decide, by decide, Nat.zero_le _, Nat.zero_le _⟩ (Nat.le_of_ble_eq_true rfl) (fun v h hp => ?_)
    obtain ⟨rfl, rfl⟩ := hp
    first | refine wp_astore_n (pc := 16) dX6_freshFile_16 (by decide) rfl ?_ | refine wp_astore_nN (pc := 16) dX6_freshFile_16 (by decide) rfl ?_
    first | refine wp_aload_n (pc := 17) dX6_freshFile_17 rfl ?_ | refine wp_aload_nN (pc := 17) dX6_freshFile_17 rfl ?_
    refine wp_ifnonnull_n (pc := 18) dX6_freshFile_18 ?_
    refine wp_new (pc := 21) dX6_freshFile_21 ab_k6 cl_LevelStore_213 in_SortedFile ini_SortedFile (by decide) (by decide) ?_
    refine wp_dup (pc := 24) dX6_freshFile_24 rfl ?_
    refine cv_LevelStore_309 (pc := 25) (s_X5_init hX) rfl dX6_freshFile_25 ⟨by decide, by decide, by decide, by decide⟩ (Nat.le_of_ble_eq_true rfl) (fun v h hp => ?_)
    obtain ⟨rfl, n', S', R', I', rfl, g1, g2, g3, g4, g5⟩ := hp
    refine wp_goto (pc := 28) (tgt := 32) dX6_freshFile_28 (by decide) ?_
    first | refine wp_reta (pc := 32) dX6_freshFile_32 trivial ?_ | refine wp_retn (pc := 32) dX6_freshFile_32 trivial ?_
    refine ⟨n, (0, 0, 0, []), n', S', R', I', P, FS, rfl, rfl, g1, h.grow hX g1 g4 g5, g2, g3, fun j hj hm => ?_, fun j hj _ => g5 j hj, fun k _ => ⟨rfl, rfl⟩, Or.inr ⟨h0, h0⟩⟩
    have := ((h.1 j hj).1.2.2.2.2.2.2.2 n hm).2.1
    omega
  · have e1 : nI (P 4).length - 1 = nI ((P 4).length - 1) := by
      rw [show (P 4).length = ((P 4).length - 1) + 1 by omega]
      exact nI_pred _
    have hq : (P 4)[(P 4).length - 1]? = some ((P 4)[(P 4).length - 1]'(by omega)) := List.getElem?_eq_getElem (by omega)
    obtain ⟨q, F, hq, hF, -⟩ := fl_at (h.1 4 (by decide)).2.1 (t := (P 4).length - 1) (by omega)
    first | refine wp_aload_n (pc := 0) dX6_freshFile_0 rfl ?_ | refine wp_aload_nN (pc := 0) dX6_freshFile_0 rfl ?_
    refine wp_getR (pc := 1) dX6_freshFile_1 fl_LevelStore_29 (by assumption) rfl (by assumption) ?_
    first | refine wp_aload_n (pc := 4) dX6_freshFile_4 rfl ?_ | refine wp_aload_nN (pc := 4) dX6_freshFile_4 rfl ?_
    refine wp_getR (pc := 5) dX6_freshFile_5 fl_LevelStore_29 (by assumption) rfl (by assumption) ?_
    refine cv_LevelStore_154 (pc := 8) (hsz) rfl dX6_freshFile_8 (by assumption) ⟨by decide, by decide, Nat.zero_le _, Nat.zero_le _⟩ (Nat.le_of_ble_eq_true rfl) (fun v h hp => ?_)
    obtain ⟨rfl, rfl⟩ := hp
    refine wp_iconst (pc := 11) (v := 1) dX6_freshFile_11 (by decide) ?_
    refine wp_isub (pc := 12) dX6_freshFile_12 ?_
    rw [e1]
    refine cv_LevelStore_306 (pc := 13) (s_out hX h (k := 4) (by decide) hq hF) rfl dX6_freshFile_13 (by assumption) ⟨by decide, by decide, Nat.zero_le _, Nat.zero_le _⟩ (Nat.le_of_ble_eq_true rfl) (fun v h hp => ?_)
    obtain ⟨rfl, R', I', rfl, he, hLF, hI, hS, hSI, hnot⟩ := hp
    first | refine wp_astore_n (pc := 16) dX6_freshFile_16 (by decide) rfl ?_ | refine wp_astore_nN (pc := 16) dX6_freshFile_16 (by decide) rfl ?_
    first | refine wp_aload_n (pc := 17) dX6_freshFile_17 rfl ?_ | refine wp_aload_nN (pc := 17) dX6_freshFile_17 rfl ?_
    refine wp_ifnonnull_r (pc := 18) (tgt := 31) dX6_freshFile_18 (by decide) ?_
    first | refine wp_aload_n (pc := 31) dX6_freshFile_31 rfl ?_ | refine wp_aload_nN (pc := 31) dX6_freshFile_31 rfl ?_
    first | refine wp_reta (pc := 32) dX6_freshFile_32 trivial ?_ | refine wp_retn (pc := 32) dX6_freshFile_32 trivial ?_
    refine ⟨q, F, n, S, R', I', _, _, rfl, rfl, he, hLF, hS, hSI, hnot, fun j _ hj => hI j hj, fun k hk => by simp [va_up, hk], Or.inl ?_⟩
    simp only [va_up, if_true]
    rw [delAt_len (by omega)]
    omega
end MAKE
