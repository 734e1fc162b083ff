/-! A JOB IS GIVEN UP; ONE ENTRY; THE WORK -/
theorem ab_u2_far (I : ab_II) {r k j : Nat} {x : Int32} (h : j ≠ r) : ab_u2 I r k x j = I j := ab_u2_r I x h
section GU
variable {σ : St} {n : Nat} {S : ab_SH} {R : ab_RR} {I : ab_II} {A : AC} {P : Nat → List Nat} {sp : List FA}
/-- the job ends, nothing being in the row of what it made, or all of it elsewhere too -/
theorem s_end_LF {FS : Nat → List FA} (hX : Fx n S R) (h : LF n S R I A P FS) : wp 2 43 0 0 MX2_end 0 [(0, .ref 27)] [] (n, S, R, I) (fun v h => v = none ∧ ∃ R' I', h = (n, S, R', I') ∧ ab_ex n S R n S R' ∧ LF n S R' I' A (va_up P 5 []) (va_up FS 5 []) ∧ (∀ j, j ∉ [27, 28, 33, 38] → I' j = I j) ∧ I' 27 0 = 0 ∧ I' 27 9 = 0 ∧ (∀ k, k ≠ 0 → k ≠ 9 → I' 27 k = I 27 k) ∧ I' 28 3 = 0 ∧ I' 33 3 = 0) := by
  have hL := (h.1 5 (by decide)).1
  refine wp_post (fun v hh hp => ?_) (s_X2_end hX hL)
  obtain ⟨rfl, R', I', rfl, g1, g2, g3⟩ := hp
  have hI : ∀ j, j ∉ [27, 28, 33, 38] → I' j = I j := fun j hj => by
    simp only [List.mem_cons, List.not_mem_nil, or_false, not_or] at hj
    rw [g3 j (by omega), ab_u2_r _ _ (by omega), ab_u2_r _ _ (by omega), ab_u2_r _ _ (by omega), ab_u2_r _ _ (by omega)]
  have h2 : LF n S R (ab_u2 (ab_u2 (ab_u2 (ab_u2 I 27 0 0) 28 3 0) 27 9 0) 33 3 0) A P FS := h.keep (fun k hk => by have := xk_in hk; rw [ab_u2_r _ _ (by omega), ab_u2_r _ _ (by omega), ab_u2_r _ _ (by omega), ab_u2_r _ _ (by omega)]) (fun j hj => by rw [ab_u2_r _ _ (by omega), ab_u2_r _ _ (by omega), ab_u2_r _ _ (by omega), ab_u2_r _ _ (by omega)])
  obtain ⟨he, h3⟩ := h2.one (k := 5) (by decide) (R' := R') (I' := I') (l := []) (fs := []) g1 g2 (fun j hj => g3 j hj) ⟨rfl, fun i q F hq => by cases hq⟩ (fun c y hc => by cases hc) (fun c d y hc => by cases hc)
  refine ⟨rfl, R', I', rfl, he, h3, hI, ?_, ?_, fun k h0 h9 => ?_, ?_, ?_⟩
  · rw [g3 27 (by decide)]; rfl
  · rw [g3 27 (by decide)]; rfl
  · rw [g3 27 (by decide), ab_u2_r _ _ (by decide), ab_u2_n _ _ (Or.inr h9), ab_u2_r _ _ (by decide), ab_u2_n _ _ (Or.inr h0)]
  · rw [g3 28 (by decide)]; rfl
  · rw [g3 33 (by decide)]; rfl
theorem s_giveUp (h : RC σ n S R I A P sp) (hP : PLC σ.FS) (hnf : (σ.FS 5).length ≤ σ.nf) : wp 9 219 (pC A 4) (pS A 4) MX6_giveUpJob 0 [(0, .ref 3)] [] (n, S, R, I) (fun v h => v = some (.int (nI (σ.FS 5).length)) ∧ ∃ n' S' R' I' A' P' sp', h = (n', S', R', I') ∧ ab_ex n S R n' S' R' ∧ RC σ.giveUp n' S' R' I' A' P' sp' ∧ kM I I') := by
  have hX := h.fx
  have e5 := h.len (k := 5) (by decide) (by decide)
  have e55 : va_up σ.FS 4 sp 5 = σ.FS 5 := up_ne (by decide)
  have h5 := tot_le (P := P) (k := 5) (by decide)
  have htp := h.tp
  first | refine wp_aload_n (pc := 0) dX6_giveUpJob_0 rfl ?_ | refine wp_aload_nN (pc := 0) dX6_giveUpJob_0 rfl ?_
  refine wp_getR (pc := 1) dX6_giveUpJob_1 fl_LevelStore_50 (by first | assumption | exact Fx.ok (by assumption) (by decide)) rfl (by first | assumption | exact Fx.ref (by assumption) rfl) ?_
  refine wp_getR (pc := 4) dX6_giveUpJob_4 fl_LevelStore_186 (by first | assumption | exact Fx.ok (by assumption) (by decide)) rfl (by first | assumption | exact Fx.ref (by assumption) rfl) ?_
  refine cv_LevelStore_154 (pc := 7) (s_X1_size (hX.fr (k := 5) (by decide)) (h.lF.1 5 (by decide)).1) rfl dX6_giveUpJob_7 (by first | assumption | exact Fx.ok (by assumption) (by decide)) ⟨by decide, by decide, Nat.zero_le _, Nat.zero_le _⟩ (Nat.le_of_ble_eq_true rfl) (fun v h hp => ?_)
  obtain ⟨rfl, rfl⟩ := hp
  rw [e5]
  refine wp_istore_n (pc := 10) dX6_giveUpJob_10 (by decide) rfl ?_
  first | refine wp_aload_n (pc := 11) dX6_giveUpJob_11 rfl ?_ | refine wp_aload_nN (pc := 11) dX6_giveUpJob_11 rfl ?_
  first | refine wp_aload_n (pc := 12) dX6_giveUpJob_12 rfl ?_ | refine wp_aload_nN (pc := 12) dX6_giveUpJob_12 rfl ?_
  refine wp_getR (pc := 13) dX6_giveUpJob_13 fl_LevelStore_50 (by first | assumption | exact Fx.ok (by assumption) (by decide)) rfl (by first | assumption | exact Fx.ref (by assumption) rfl) ?_
  refine wp_getR (pc := 16) dX6_giveUpJob_16 fl_LevelStore_186 (by first | assumption | exact Fx.ok (by assumption) (by decide)) rfl (by first | assumption | exact Fx.ref (by assumption) rfl) ?_
  refine wp_iconst (pc := 19) (v := 0) dX6_giveUpJob_19 (by decide) ?_
  refine wp_iload_n (pc := 20) dX6_giveUpJob_20 rfl ?_
  have e0 : (0 : Int32) = nI 0 := rfl
  rw [e0]
  refine cv_LevelStore_192 (pc := 21) (s_X6_retire hX h.lF (k := 5) (a := 0) (b := (σ.FS 5).length) (Or.inr rfl) (Nat.zero_le _) (by rw [e55]; exact Nat.le_refl _) h.tk4 hP.up4 h.tp) rfl dX6_giveUpJob_21 (by first | assumption | exact Fx.ok (by assumption) (by decide)) ⟨by decide, by decide, Nat.le_refl _, Nat.le_refl _⟩ (Nat.le_of_ble_eq_true rfl) (fun v h hp => ?_)
  obtain ⟨rfl, n1, S1, R1, I1, A1, P1, FS1, rfl, he1, hLF1, hF5, hFo, hTK1, hPL1, hI1, hA1, ht1⟩ := hp
  have hX1 := hX.ex he1
  have hI1' : ∀ j, j < 66 → j ∉ [19, 22, 38] → I1 j = I j := hI1
  first | refine wp_aload_n (pc := 24) dX6_giveUpJob_24 rfl ?_ | refine wp_aload_nN (pc := 24) dX6_giveUpJob_24 rfl ?_
  refine wp_dup (pc := 25) dX6_giveUpJob_25 rfl ?_
  refine wp_getI (pc := 26) dX6_giveUpJob_26 fl_LevelStore_244 (by first | assumption | exact Fx.ok (by assumption) (by decide)) rfl ?_
  refine wp_iload_n (pc := 29) dX6_giveUpJob_29 rfl ?_
  refine wp_isub (pc := 30) dX6_giveUpJob_30 ?_
  rw [hI1' 3 (by decide) (by decide), h.c3.2.2, show nI σ.nf - nI (σ.FS 5).length = nI (σ.nf - (σ.FS 5).length) from pk_sub hnf]
  refine wp_putI (pc := 31) dX6_giveUpJob_31 fl_LevelStore_244 (by first | assumption | exact Fx.ok (by assumption) (by decide)) rfl rfl (Or.inl rfl) ?_
  first | refine wp_aload_n (pc := 34) dX6_giveUpJob_34 rfl ?_ | refine wp_aload_nN (pc := 34) dX6_giveUpJob_34 rfl ?_
  refine wp_getR (pc := 35) dX6_giveUpJob_35 fl_LevelStore_50 (by first | assumption | exact Fx.ok (by assumption) (by decide)) rfl (by first | assumption | exact Fx.ref (by assumption) rfl) ?_
  have hLF2 : LF n1 S1 R1 (ab_u2 I1 3 9 (nI (σ.nf - (σ.FS 5).length))) A1 P1 FS1 := hLF1.keep (fun k hk => by have := xk_in hk; rw [ab_u2_r _ _ (by omega)]) (fun j hj => ab_u2_r _ _ (by omega))
  refine cv_LevelStore_205 (pc := 38) (s_end_LF hX1 hLF2) rfl dX6_giveUpJob_38 (by first | assumption | exact Fx.ok (by assumption) (by decide)) ⟨by decide, by decide, Nat.zero_le _, Nat.zero_le _⟩ (Nat.le_of_ble_eq_true rfl) (fun v h hp => ?_)
  obtain ⟨rfl, R2, I2, rfl, he2, hLF3, hI2, k1, k2, k3, k4, k5⟩ := hp
  refine wp_iload_n (pc := 41) dX6_giveUpJob_41 rfl ?_
  refine wp_ret (pc := 42) dX6_giveUpJob_42 rfl (by first | trivial | exact Or.inl rfl | exact Or.inr rfl | assumption) ?_
  have hI : ∀ j, j < 66 → j ∉ [3, 19, 22, 27, 28, 33, 38] → I2 j = I j := fun j hj hjn => by
    simp only [List.mem_cons, List.not_mem_nil, or_false, not_or] at hjn
    rw [hI2 j (by simp; omega), ab_u2_r _ _ (by omega), hI1' j hj (by simp; omega)]
  have hF5' : FS1 5 = [] := by rw [hF5, e55]; simp
  have hFS : va_up FS1 5 [] = va_up (va_up σ.FS 5 []) 4 (FS1 4) := by
    have := FS_eq (FS := σ.FS) (FS' := va_up FS1 5 []) (sp := sp) (l := []) up_at (fun j h1 h2 => by rw [up_ne h1]; exact hFo j h1 h2)
    rw [up_ne (show (4 : Nat) ≠ 5 by decide)] at this
    exact this
  have e3 : ∀ k, k ≠ 9 → I2 3 k = I 3 k := fun k hk => by rw [hI2 3 (by simp), ab_u2_n _ _ (Or.inr hk), hI1' 3 (by decide) (by decide)]
  have e39 : I2 3 9 = nI (σ.nf - (σ.FS 5).length) := by rw [hI2 3 (by simp), ab_u2_s]
  refine ⟨rfl, n1, S1, R2, I2, A1, va_up P1 5 [], FS1 4, rfl, he1.tr he2, ⟨⟨hX1.ex he2, by rw [hFS] at hLF3; exact hLF3, ?_⟩, ⟨h.lg.keep (hI _ (by decide) (by decide)) (hI _ (by decide) (by decide)) (hI _ (by decide) (by decide)) (hI _ (by decide) (by decide)), ⟨by rw [e3 _ (by decide)]; exact h.c3.1, by rw [e3 _ (by decide)]; exact h.c3.2.1, e39⟩, by rw [hI 8 (by decide) (by decide)]; exact h.v, by rw [hI 21 (by decide) (by decide)]; exact h.b, ?_⟩, ⟨k1, k2, fun q => by cases q⟩, nil_rl k4, nil_rl k5, fun k hk => by cases hk⟩, kM.of (fun j h1 h2 => hI j h1 (by simp; omega))⟩
  · have := tot_up (P := P1) (k := 5) (l := []) (by decide)
    simp only [List.length_nil] at this
    omega
  · rw [hI2 22 (by simp), ab_u2_r _ _ (by decide)]
    refine hTK1.congr (fun k hk => ?_)
    show va_up σ.FS 5 [] k = FS1 k
    by_cases hk5 : k = 5
    · rw [hk5, up_at, hF5']
    · rw [up_ne hk5, hFo k hk5 (by omega), up_ne (by omega)]
end GU
