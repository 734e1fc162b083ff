/-! THE TWO OBJECTS ARE MADE: the constructors -/
theorem refs_in {m : Nat} {pd : List (Nat × Nat)} (hm : m < 66) (h : ∀ k, k < 41 → (fixR2 m k).isSome = true → (m, k) ∈ pd) : ∀ k x, fixR2 m k = some x → (m, k) ∈ pd := fun k x q => by
  have hl : ∀ j, j < 66 → (fixT j).length ≤ 41 := by decide +kernel
  refine h k ?_ (by rw [q]; rfl)
  refine Decidable.byContradiction fun z => ?_
  unfold fixR2 fixR at q
  rw [if_neg (by omega), List.getD_eq_getElem?_getD, List.getElem?_eq_none (by have := hl m hm; omega)] at q
  cases q
theorem al_R {j k x : Nat} (hj : fixT j = []) (h : fixR2 j k = some x) : k = 1 ∧ x = 0 := by
  unfold fixR2 at h
  split at h
  · cases h; exact ⟨by omega, rfl⟩
  · unfold fixR at h
    rw [hj] at h
    cases h
section CU
variable {sc : Nat × (Nat → Int32)} {n : Nat} {S : ab_SH} {R : ab_RR} {I : ab_II}
theorem c_X0_init (c : Cr sc 21 [(20, 0), (20, 1), (20, 2), (3, 6), (3, 7), (3, 8)] S R I) : wp 1 20 3 3194 MX0_init 0 [(0, .ref 20)] [] (21, S, R, I) (fun v h => v = none ∧ ∃ S' R' I', h = (24, S', R', I') ∧ Cr sc 24 [(3, 6), (3, 7), (3, 8)] S' R' I') := by
  first | refine wp_aload_n (pc := 0) dX0_init_0 rfl ?_ | refine wp_aload_nN (pc := 0) dX0_init_0 rfl ?_
  refine wp_objInit (pc := 1) dX0_init_1 ml_Field_3 im_objInit co_objInit (by decide) (Nat.le_of_ble_eq_true rfl) ?_
  first | refine wp_aload_n (pc := 4) dX0_init_4 rfl ?_ | refine wp_aload_nN (pc := 4) dX0_init_4 rfl ?_
  refine wp_sipush (pc := 5) (v := 1500) dX0_init_5 (by decide) ?_
  refine wp_newI (pc := 8) dX0_init_8 ac_int (by decide) rfl (by decide) (by decide) (by decide) ?_
  refine cr_cut (m := 22) (pd := [(20, 0), (20, 1), (20, 2), (3, 6), (3, 7), (3, 8)]) (c.new (m := 21) ⟨by decide, by decide, by decide⟩ (by decide +kernel) (fun k x q => by rw [noR (by decide +kernel)] at q; cases q) (by decide)) (fun S R I c => ?_)
  refine wp_putR (pc := 10) dX0_init_10 fl_Field_9 (c.ok (by decide +kernel)) rfl (Or.inr ⟨rfl, rfl, rfl⟩) ?_
  refine cr_cut (m := 22) (pd := [(20, 1), (20, 2), (3, 6), (3, 7), (3, 8)]) (Cr.put c (r := 20) (k := 0) (x := 21) (by decide +kernel) (by decide +kernel)) (fun S R I c => ?_)
  first | refine wp_aload_n (pc := 13) dX0_init_13 rfl ?_ | refine wp_aload_nN (pc := 13) dX0_init_13 rfl ?_
  refine wp_sipush (pc := 14) (v := 1500) dX0_init_14 (by decide) ?_
  refine wp_newZ (pc := 17) dX0_init_17 ac_boolean (by decide) rfl (by decide) (by decide) (by decide) ?_
  refine cr_cut (m := 23) (pd := [(20, 1), (20, 2), (3, 6), (3, 7), (3, 8)]) (c.new (m := 22) ⟨by decide, by decide, by decide⟩ (by decide +kernel) (fun k x q => by rw [noR (by decide +kernel)] at q; cases q) (by decide)) (fun S R I c => ?_)
  refine wp_putR (pc := 19) dX0_init_19 fl_Field_15 (c.ok (by decide +kernel)) rfl (Or.inr ⟨rfl, rfl, rfl⟩) ?_
  refine cr_cut (m := 23) (pd := [(20, 2), (3, 6), (3, 7), (3, 8)]) (Cr.put c (r := 20) (k := 1) (x := 22) (by decide +kernel) (by decide +kernel)) (fun S R I c => ?_)
  first | refine wp_aload_n (pc := 22) dX0_init_22 rfl ?_ | refine wp_aload_nN (pc := 22) dX0_init_22 rfl ?_
  refine wp_sipush (pc := 23) (v := 194) dX0_init_23 (by decide) ?_
  refine wp_newI (pc := 26) dX0_init_26 ac_int (by decide) rfl (by decide) (by decide) (by decide) ?_
  refine cr_cut (m := 24) (pd := [(20, 2), (3, 6), (3, 7), (3, 8)]) (c.new (m := 23) ⟨by decide, by decide, by decide⟩ (by decide +kernel) (fun k x q => by rw [noR (by decide +kernel)] at q; cases q) (by decide)) (fun S R I c => ?_)
  refine wp_putR (pc := 28) dX0_init_28 fl_Field_19 (c.ok (by decide +kernel)) rfl (Or.inr ⟨rfl, rfl, rfl⟩) ?_
  refine cr_cut (m := 24) (pd := [(3, 6), (3, 7), (3, 8)]) (Cr.put c (r := 20) (k := 2) (x := 23) (by decide +kernel) (by decide +kernel)) (fun S R I c => ?_)
  refine wp_retv (pc := 31) dX0_init_31 rfl ?_
  exact ⟨rfl, S, R, I, rfl, c⟩
theorem c_X3_init (c : Cr sc 25 [(24, 0), (24, 1), (3, 7), (3, 8)] S R I) : wp 1 20 2 2000 MX3_init 0 [(0, .ref 24)] [] (25, S, R, I) (fun v h => v = none ∧ ∃ S' R' I', h = (27, S', R', I') ∧ Cr sc 27 [(3, 7), (3, 8)] S' R' I') := by
  first | refine wp_aload_n (pc := 0) dX3_init_0 rfl ?_ | refine wp_aload_nN (pc := 0) dX3_init_0 rfl ?_
  refine wp_objInit (pc := 1) dX3_init_1 ml_Reading_3 im_objInit co_objInit (by decide) (Nat.le_of_ble_eq_true rfl) ?_
  first | refine wp_aload_n (pc := 4) dX3_init_4 rfl ?_ | refine wp_aload_nN (pc := 4) dX3_init_4 rfl ?_
  refine wp_sipush (pc := 5) (v := 1000) dX3_init_5 (by decide) ?_
  refine wp_newI (pc := 8) dX3_init_8 ac_int (by decide) rfl (by decide) (by decide) (by decide) ?_
  refine cr_cut (m := 26) (pd := [(24, 0), (24, 1), (3, 7), (3, 8)]) (c.new (m := 25) ⟨by decide, by decide, by decide⟩ (by decide +kernel) (fun k x q => by rw [noR (by decide +kernel)] at q; cases q) (by decide)) (fun S R I c => ?_)
  refine wp_putR (pc := 10) dX3_init_10 fl_Reading_9 (c.ok (by decide +kernel)) rfl (Or.inr ⟨rfl, rfl, rfl⟩) ?_
  refine cr_cut (m := 26) (pd := [(24, 1), (3, 7), (3, 8)]) (Cr.put c (r := 24) (k := 0) (x := 25) (by decide +kernel) (by decide +kernel)) (fun S R I c => ?_)
  first | refine wp_aload_n (pc := 13) dX3_init_13 rfl ?_ | refine wp_aload_nN (pc := 13) dX3_init_13 rfl ?_
  refine wp_sipush (pc := 14) (v := 1000) dX3_init_14 (by decide) ?_
  refine wp_newI (pc := 17) dX3_init_17 ac_int (by decide) rfl (by decide) (by decide) (by decide) ?_
  refine cr_cut (m := 27) (pd := [(24, 1), (3, 7), (3, 8)]) (c.new (m := 26) ⟨by decide, by decide, by decide⟩ (by decide +kernel) (fun k x q => by rw [noR (by decide +kernel)] at q; cases q) (by decide)) (fun S R I c => ?_)
  refine wp_putR (pc := 19) dX3_init_19 fl_Reading_15 (c.ok (by decide +kernel)) rfl (Or.inr ⟨rfl, rfl, rfl⟩) ?_
  refine cr_cut (m := 27) (pd := [(3, 7), (3, 8)]) (Cr.put c (r := 24) (k := 1) (x := 26) (by decide +kernel) (by decide +kernel)) (fun S R I c => ?_)
  refine wp_retv (pc := 22) dX3_init_22 rfl ?_
  exact ⟨rfl, S, R, I, rfl, c⟩
theorem c_X2_init (c : Cr sc 28 [(27, 7), (27, 8), (27, 10), (27, 11), (3, 8)] S R I) : wp 5 100 11 3100 MX2_init 0 [(0, .ref 27)] [] (28, S, R, I) (fun v h => v = none ∧ ∃ S' R' I', h = (39, S', R', I') ∧ Cr sc 39 [(3, 8)] S' R' I') := by
  first | refine wp_aload_n (pc := 0) dX2_init_0 rfl ?_ | refine wp_aload_nN (pc := 0) dX2_init_0 rfl ?_
  refine wp_objInit (pc := 1) dX2_init_1 ml_Job_3 im_objInit co_objInit (by decide) (Nat.le_of_ble_eq_true rfl) ?_
  first | refine wp_aload_n (pc := 4) dX2_init_4 rfl ?_ | refine wp_aload_nN (pc := 4) dX2_init_4 rfl ?_
  refine wp_new (pc := 5) dX2_init_5 ab_k5 cl_Job_9 in_Row ini_Row (by decide) (by decide) ?_
  refine cr_cut (m := 29) (pd := [(28, 0), (28, 1), (28, 2), (27, 7), (27, 8), (27, 10), (27, 11), (3, 8)]) (c.new (m := 28) ⟨by decide, by decide, by decide⟩ (by decide +kernel) (refs_in (by decide) (by decide +kernel)) (by decide)) (fun S R I c => ?_)
  refine wp_dup (pc := 8) dX2_init_8 rfl ?_
  refine wp_sipush (pc := 9) (v := 750) dX2_init_9 (by decide) ?_
  refine cv_Job_11 (pc := 12) (s_X4_init (r := 28) (cap := 750) (c.ok (by decide +kernel)) (by decide)) rfl dX2_init_12 ⟨by decide, by decide, by decide, by decide⟩ (Nat.le_of_ble_eq_true rfl) (fun v h hp => ?_)
  obtain ⟨rfl, R2, rfl, g0, g1, g2, go⟩ := hp
  refine cr_cut (m := 32) (pd := [(27, 7), (27, 8), (27, 10), (27, 11), (3, 8)]) (Cr.row (m := 28) c (cap := 750) (by decide) (by decide +kernel) (by decide) (by decide +kernel) (by decide +kernel) (by decide +kernel) (by decide +kernel) (by decide +kernel) (by decide +kernel) (noR (by decide +kernel)) (noR (by decide +kernel)) (noR (by decide +kernel)) (by decide) g0 g1 g2 go) (fun S R I c => ?_)
  refine wp_putR (pc := 15) dX2_init_15 fl_Job_14 (c.ok (by decide +kernel)) rfl (Or.inr ⟨rfl, rfl, rfl⟩) ?_
  refine cr_cut (m := 32) (pd := [(27, 8), (27, 10), (27, 11), (3, 8)]) (Cr.put c (r := 27) (k := 7) (x := 28) (by decide +kernel) (by decide +kernel)) (fun S R I c => ?_)
  first | refine wp_aload_n (pc := 18) dX2_init_18 rfl ?_ | refine wp_aload_nN (pc := 18) dX2_init_18 rfl ?_
  refine wp_sipush (pc := 19) (v := 750) dX2_init_19 (by decide) ?_
  refine wp_newZ (pc := 22) dX2_init_22 ac_boolean (by decide) rfl (by decide) (by decide) (by decide) ?_
  refine cr_cut (m := 33) (pd := [(27, 8), (27, 10), (27, 11), (3, 8)]) (c.new (m := 32) ⟨by decide, by decide, by decide⟩ (by decide +kernel) (fun k x q => by rw [noR (by decide +kernel)] at q; cases q) (by decide)) (fun S R I c => ?_)
  refine wp_putR (pc := 24) dX2_init_24 fl_Job_20 (c.ok (by decide +kernel)) rfl (Or.inr ⟨rfl, rfl, rfl⟩) ?_
  refine cr_cut (m := 33) (pd := [(27, 10), (27, 11), (3, 8)]) (Cr.put c (r := 27) (k := 8) (x := 32) (by decide +kernel) (by decide +kernel)) (fun S R I c => ?_)
  first | refine wp_aload_n (pc := 27) dX2_init_27 rfl ?_ | refine wp_aload_nN (pc := 27) dX2_init_27 rfl ?_
  refine wp_new (pc := 28) dX2_init_28 ab_k5 cl_Job_9 in_Row ini_Row (by decide) (by decide) ?_
  refine cr_cut (m := 34) (pd := [(33, 0), (33, 1), (33, 2), (27, 10), (27, 11), (3, 8)]) (c.new (m := 33) ⟨by decide, by decide, by decide⟩ (by decide +kernel) (refs_in (by decide) (by decide +kernel)) (by decide)) (fun S R I c => ?_)
  refine wp_dup (pc := 31) dX2_init_31 rfl ?_
  refine wp_bipush (pc := 32) (v := 24) dX2_init_32 (by decide) ?_
  refine cv_Job_11 (pc := 34) (s_X4_init (r := 33) (cap := 24) (c.ok (by decide +kernel)) (by decide)) rfl dX2_init_34 ⟨by decide, by decide, by decide, by decide⟩ (Nat.le_of_ble_eq_true rfl) (fun v h hp => ?_)
  obtain ⟨rfl, R2, rfl, g0, g1, g2, go⟩ := hp
  refine cr_cut (m := 37) (pd := [(27, 10), (27, 11), (3, 8)]) (Cr.row (m := 33) c (cap := 24) (by decide) (by decide +kernel) (by decide) (by decide +kernel) (by decide +kernel) (by decide +kernel) (by decide +kernel) (by decide +kernel) (by decide +kernel) (noR (by decide +kernel)) (noR (by decide +kernel)) (noR (by decide +kernel)) (by decide) g0 g1 g2 go) (fun S R I c => ?_)
  refine wp_putR (pc := 37) dX2_init_37 fl_Job_24 (c.ok (by decide +kernel)) rfl (Or.inr ⟨rfl, rfl, rfl⟩) ?_
  refine cr_cut (m := 37) (pd := [(27, 11), (3, 8)]) (Cr.put c (r := 27) (k := 10) (x := 33) (by decide +kernel) (by decide +kernel)) (fun S R I c => ?_)
  first | refine wp_aload_n (pc := 40) dX2_init_40 rfl ?_ | refine wp_aload_nN (pc := 40) dX2_init_40 rfl ?_
  refine wp_new (pc := 41) dX2_init_41 ab_k2 cl_Job_27 in_FileRow ini_FileRow (by decide) (by decide) ?_
  refine cr_cut (m := 38) (pd := [(37, 0), (27, 11), (3, 8)]) (c.new (m := 37) ⟨by decide, by decide, by decide⟩ (by decide +kernel) (refs_in (by decide) (by decide +kernel)) (by decide)) (fun S R I c => ?_)
  refine wp_dup (pc := 44) dX2_init_44 rfl ?_
  refine cv_Job_29 (pc := 45) (c_X1_init (m := 37) (pd := [(27, 11), (3, 8)]) c (by decide) (by decide +kernel) (by decide +kernel) (fun k x q => al_R (by decide +kernel) q) (by decide +kernel) (by decide)) rfl dX2_init_45 ⟨by decide, by decide, by decide, by decide⟩ (Nat.le_of_ble_eq_true rfl) (fun v h hp => ?_)
  obtain ⟨rfl, S2, R2, I2, rfl, c2⟩ := hp
  refine cr_cut (m := 39) (pd := [(27, 11), (3, 8)]) c2 (fun S R I c => ?_)
  refine wp_putR (pc := 48) dX2_init_48 fl_Job_30 (c.ok (by decide +kernel)) rfl (Or.inr ⟨rfl, rfl, rfl⟩) ?_
  refine cr_cut (m := 39) (pd := [(3, 8)]) (Cr.put c (r := 27) (k := 11) (x := 37) (by decide +kernel) (by decide +kernel)) (fun S R I c => ?_)
  refine wp_retv (pc := 51) dX2_init_51 rfl ?_
  exact ⟨rfl, S, R, I, rfl, c⟩
theorem c_X6_init (c : Cr sc 4 [(3, 0), (3, 3), (3, 4), (3, 5), (3, 6), (3, 7), (3, 8)] S R I) : wp 6 120 40 9000 MX6_init 0 [(0, .ref 3)] [] (4, S, R, I) (fun v h => v = none ∧ ∃ S' R' I', h = (39, S', R', I') ∧ Cr sc 39 [] S' R' I') := by
  first | refine wp_aload_n (pc := 0) dX6_init_0 rfl ?_ | refine wp_aload_nN (pc := 0) dX6_init_0 rfl ?_
  refine wp_objInit (pc := 1) dX6_init_1 ml_LevelStore_3 im_objInit co_objInit (by decide) (Nat.le_of_ble_eq_true rfl) ?_
  first | refine wp_aload_n (pc := 4) dX6_init_4 rfl ?_ | refine wp_aload_nN (pc := 4) dX6_init_4 rfl ?_
  refine wp_new (pc := 5) dX6_init_5 ab_k5 cl_LevelStore_9 in_Row ini_Row (by decide) (by decide) ?_
  refine cr_cut (m := 5) (pd := [(4, 0), (4, 1), (4, 2), (3, 0), (3, 3), (3, 4), (3, 5), (3, 6), (3, 7), (3, 8)]) (c.new (m := 4) ⟨by decide, by decide, by decide⟩ (by decide +kernel) (refs_in (by decide) (by decide +kernel)) (by decide)) (fun S R I c => ?_)
  refine wp_dup (pc := 8) dX6_init_8 rfl ?_
  refine wp_bipush (pc := 9) (v := 24) dX6_init_9 (by decide) ?_
  refine cv_LevelStore_11 (pc := 11) (s_X4_init (r := 4) (cap := 24) (c.ok (by decide +kernel)) (by decide)) rfl dX6_init_11 ⟨by decide, by decide, by decide, by decide⟩ (Nat.le_of_ble_eq_true rfl) (fun v h hp => ?_)
  obtain ⟨rfl, R2, rfl, g0, g1, g2, go⟩ := hp
  refine cr_cut (m := 8) (pd := [(3, 0), (3, 3), (3, 4), (3, 5), (3, 6), (3, 7), (3, 8)]) (Cr.row (m := 4) c (cap := 24) (by decide) (by decide +kernel) (by decide) (by decide +kernel) (by decide +kernel) (by decide +kernel) (by decide +kernel) (by decide +kernel) (by decide +kernel) (noR (by decide +kernel)) (noR (by decide +kernel)) (noR (by decide +kernel)) (by decide) g0 g1 g2 go) (fun S R I c => ?_)
  refine wp_putR (pc := 14) dX6_init_14 fl_LevelStore_14 (c.ok (by decide +kernel)) rfl (Or.inr ⟨rfl, rfl, rfl⟩) ?_
  refine cr_cut (m := 8) (pd := [(3, 3), (3, 4), (3, 5), (3, 6), (3, 7), (3, 8)]) (Cr.put c (r := 3) (k := 0) (x := 4) (by decide +kernel) (by decide +kernel)) (fun S R I c => ?_)
  first | refine wp_aload_n (pc := 17) dX6_init_17 rfl ?_ | refine wp_aload_nN (pc := 17) dX6_init_17 rfl ?_
  refine wp_iconst (pc := 18) (v := 3) dX6_init_18 (by decide) ?_
  refine wp_newI (pc := 19) dX6_init_19 ac_int (by decide) rfl (by decide) (by decide) (by decide) ?_
  have o8 : ab_ok (8 + 1) (ab_nS S 8 9 (Int32.toNatClampNeg 3)) 8 9 := ⟨by decide, by decide, by rw [ab_nS_at]⟩
  have z8 : (ab_nS S 8 9 (Int32.toNatClampNeg 3) 8).2 = 3 := by rw [ab_nS_at]; decide +kernel
  refine wp_dup (pc := 21) dX6_init_21 rfl ?_
  refine wp_iconst (pc := 22) (v := 0) dX6_init_22 (by decide) ?_
  refine wp_iconst (pc := 23) (v := -1) dX6_init_23 (by decide) ?_
  refine wp_iastore (pc := 24) dX6_init_24 (o8) (by rw [z8]; exact in_I (by decide) (by decide)) ?_
  refine wp_dup (pc := 25) dX6_init_25 rfl ?_
  refine wp_iconst (pc := 26) (v := 1) dX6_init_26 (by decide) ?_
  refine wp_iconst (pc := 27) (v := -1) dX6_init_27 (by decide) ?_
  refine wp_iastore (pc := 28) dX6_init_28 (o8) (by rw [z8]; exact in_I (by decide) (by decide)) ?_
  refine wp_dup (pc := 29) dX6_init_29 rfl ?_
  refine wp_iconst (pc := 30) (v := 2) dX6_init_30 (by decide) ?_
  refine wp_iconst (pc := 31) (v := -1) dX6_init_31 (by decide) ?_
  refine wp_iastore (pc := 32) dX6_init_32 (o8) (by rw [z8]; exact in_I (by decide) (by decide)) ?_
  refine cr_cut (m := 9) (pd := [(3, 3), (3, 4), (3, 5), (3, 6), (3, 7), (3, 8)]) (c.newV (m := 8) (Or.inl rfl) (by decide +kernel) (fun k x q => by rw [noR (by decide +kernel)] at q; cases q) (fun _ q => q) (by decide +kernel) (by decide +kernel) (by decide +kernel)) (fun S R I c => ?_)
  refine wp_putR (pc := 33) dX6_init_33 fl_LevelStore_18 (c.ok (by decide +kernel)) rfl (Or.inr ⟨rfl, rfl, rfl⟩) ?_
  refine cr_cut (m := 9) (pd := [(3, 4), (3, 5), (3, 6), (3, 7), (3, 8)]) (Cr.put c (r := 3) (k := 3) (x := 8) (by decide +kernel) (by decide +kernel)) (fun S R I c => ?_)
  first | refine wp_aload_n (pc := 36) dX6_init_36 rfl ?_ | refine wp_aload_nN (pc := 36) dX6_init_36 rfl ?_
  refine wp_iconst (pc := 37) (v := 4) dX6_init_37 (by decide) ?_
  refine wp_anewF (pc := 38) (N := 4) dX6_init_38 cl_LevelStore_22 (by decide) (by decide +kernel) (by decide) (by decide) (by decide) ?_
  refine cr_cut (m := 10) (pd := [(9, 0), (9, 1), (9, 2), (9, 3), (3, 4), (3, 5), (3, 6), (3, 7), (3, 8)]) (c.new (m := 9) ⟨by decide, by decide, by decide⟩ (by decide +kernel) (refs_in (by decide) (by decide +kernel)) (by decide)) (fun S R I c => ?_)
  refine wp_dup (pc := 41) dX6_init_41 rfl ?_
  refine wp_iconst (pc := 42) (v := 0) dX6_init_42 (by decide) ?_
  refine wp_new (pc := 43) dX6_init_43 ab_k2 cl_LevelStore_22 in_FileRow ini_FileRow (by decide) (by decide) ?_
  refine cr_cut (m := 11) (pd := [(10, 0), (9, 0), (9, 1), (9, 2), (9, 3), (3, 4), (3, 5), (3, 6), (3, 7), (3, 8)]) (c.new (m := 10) ⟨by decide, by decide, by decide⟩ (by decide +kernel) (refs_in (by decide) (by decide +kernel)) (by decide)) (fun S R I c => ?_)
  refine wp_dup (pc := 46) dX6_init_46 rfl ?_
  refine cv_LevelStore_24 (pc := 47) (c_X1_init (m := 10) (pd := [(9, 0), (9, 1), (9, 2), (9, 3), (3, 4), (3, 5), (3, 6), (3, 7), (3, 8)]) c (by decide) (by decide +kernel) (by decide +kernel) (fun k x q => al_R (by decide +kernel) q) (by decide +kernel) (by decide)) rfl dX6_init_47 ⟨by decide, by decide, by decide, by decide⟩ (Nat.le_of_ble_eq_true rfl) (fun v h hp => ?_)
  obtain ⟨rfl, S2, R2, I2, rfl, c2⟩ := hp
  refine cr_cut (m := 12) (pd := [(9, 0), (9, 1), (9, 2), (9, 3), (3, 4), (3, 5), (3, 6), (3, 7), (3, 8)]) c2 (fun S R I c => ?_)
  refine wp_aastoreF (pc := 50) dX6_init_50 (c.ok (by decide +kernel)) (by rw [c.len (j := 9) (l := 4) (by decide +kernel)]; exact in_I (by decide) (by decide)) (c.ok (by decide +kernel)) ?_
  refine cr_cut (m := 12) (pd := [(9, 1), (9, 2), (9, 3), (3, 4), (3, 5), (3, 6), (3, 7), (3, 8)]) (Cr.put c (r := 9) (k := (Int32.toNatClampNeg 0)) (x := 10) (by decide +kernel) (by decide +kernel)) (fun S R I c => ?_)
  refine wp_dup (pc := 51) dX6_init_51 rfl ?_
  refine wp_iconst (pc := 52) (v := 1) dX6_init_52 (by decide) ?_
  refine wp_new (pc := 53) dX6_init_53 ab_k2 cl_LevelStore_22 in_FileRow ini_FileRow (by decide) (by decide) ?_
  refine cr_cut (m := 13) (pd := [(12, 0), (9, 1), (9, 2), (9, 3), (3, 4), (3, 5), (3, 6), (3, 7), (3, 8)]) (c.new (m := 12) ⟨by decide, by decide, by decide⟩ (by decide +kernel) (refs_in (by decide) (by decide +kernel)) (by decide)) (fun S R I c => ?_)
  refine wp_dup (pc := 56) dX6_init_56 rfl ?_
  refine cv_LevelStore_24 (pc := 57) (c_X1_init (m := 12) (pd := [(9, 1), (9, 2), (9, 3), (3, 4), (3, 5), (3, 6), (3, 7), (3, 8)]) c (by decide) (by decide +kernel) (by decide +kernel) (fun k x q => al_R (by decide +kernel) q) (by decide +kernel) (by decide)) rfl dX6_init_57 ⟨by decide, by decide, by decide, by decide⟩ (Nat.le_of_ble_eq_true rfl) (fun v h hp => ?_)
  obtain ⟨rfl, S2, R2, I2, rfl, c2⟩ := hp
  refine cr_cut (m := 14) (pd := [(9, 1), (9, 2), (9, 3), (3, 4), (3, 5), (3, 6), (3, 7), (3, 8)]) c2 (fun S R I c => ?_)
  refine wp_aastoreF (pc := 60) dX6_init_60 (c.ok (by decide +kernel)) (by rw [c.len (j := 9) (l := 4) (by decide +kernel)]; exact in_I (by decide) (by decide)) (c.ok (by decide +kernel)) ?_
  refine cr_cut (m := 14) (pd := [(9, 2), (9, 3), (3, 4), (3, 5), (3, 6), (3, 7), (3, 8)]) (Cr.put c (r := 9) (k := (Int32.toNatClampNeg 1)) (x := 12) (by decide +kernel) (by decide +kernel)) (fun S R I c => ?_)
  refine wp_dup (pc := 61) dX6_init_61 rfl ?_
  refine wp_iconst (pc := 62) (v := 2) dX6_init_62 (by decide) ?_
  refine wp_new (pc := 63) dX6_init_63 ab_k2 cl_LevelStore_22 in_FileRow ini_FileRow (by decide) (by decide) ?_
  refine cr_cut (m := 15) (pd := [(14, 0), (9, 2), (9, 3), (3, 4), (3, 5), (3, 6), (3, 7), (3, 8)]) (c.new (m := 14) ⟨by decide, by decide, by decide⟩ (by decide +kernel) (refs_in (by decide) (by decide +kernel)) (by decide)) (fun S R I c => ?_)
  refine wp_dup (pc := 66) dX6_init_66 rfl ?_
  refine cv_LevelStore_24 (pc := 67) (c_X1_init (m := 14) (pd := [(9, 2), (9, 3), (3, 4), (3, 5), (3, 6), (3, 7), (3, 8)]) c (by decide) (by decide +kernel) (by decide +kernel) (fun k x q => al_R (by decide +kernel) q) (by decide +kernel) (by decide)) rfl dX6_init_67 ⟨by decide, by decide, by decide, by decide⟩ (Nat.le_of_ble_eq_true rfl) (fun v h hp => ?_)
  obtain ⟨rfl, S2, R2, I2, rfl, c2⟩ := hp
  refine cr_cut (m := 16) (pd := [(9, 2), (9, 3), (3, 4), (3, 5), (3, 6), (3, 7), (3, 8)]) c2 (fun S R I c => ?_)
  refine wp_aastoreF (pc := 70) dX6_init_70 (c.ok (by decide +kernel)) (by rw [c.len (j := 9) (l := 4) (by decide +kernel)]; exact in_I (by decide) (by decide)) (c.ok (by decide +kernel)) ?_
  refine cr_cut (m := 16) (pd := [(9, 3), (3, 4), (3, 5), (3, 6), (3, 7), (3, 8)]) (Cr.put c (r := 9) (k := (Int32.toNatClampNeg 2)) (x := 14) (by decide +kernel) (by decide +kernel)) (fun S R I c => ?_)
  refine wp_dup (pc := 71) dX6_init_71 rfl ?_
  refine wp_iconst (pc := 72) (v := 3) dX6_init_72 (by decide) ?_
  refine wp_new (pc := 73) dX6_init_73 ab_k2 cl_LevelStore_22 in_FileRow ini_FileRow (by decide) (by decide) ?_
  refine cr_cut (m := 17) (pd := [(16, 0), (9, 3), (3, 4), (3, 5), (3, 6), (3, 7), (3, 8)]) (c.new (m := 16) ⟨by decide, by decide, by decide⟩ (by decide +kernel) (refs_in (by decide) (by decide +kernel)) (by decide)) (fun S R I c => ?_)
  refine wp_dup (pc := 76) dX6_init_76 rfl ?_
  refine cv_LevelStore_24 (pc := 77) (c_X1_init (m := 16) (pd := [(9, 3), (3, 4), (3, 5), (3, 6), (3, 7), (3, 8)]) c (by decide) (by decide +kernel) (by decide +kernel) (fun k x q => al_R (by decide +kernel) q) (by decide +kernel) (by decide)) rfl dX6_init_77 ⟨by decide, by decide, by decide, by decide⟩ (Nat.le_of_ble_eq_true rfl) (fun v h hp => ?_)
  obtain ⟨rfl, S2, R2, I2, rfl, c2⟩ := hp
  refine cr_cut (m := 18) (pd := [(9, 3), (3, 4), (3, 5), (3, 6), (3, 7), (3, 8)]) c2 (fun S R I c => ?_)
  refine wp_aastoreF (pc := 80) dX6_init_80 (c.ok (by decide +kernel)) (by rw [c.len (j := 9) (l := 4) (by decide +kernel)]; exact in_I (by decide) (by decide)) (c.ok (by decide +kernel)) ?_
  refine cr_cut (m := 18) (pd := [(3, 4), (3, 5), (3, 6), (3, 7), (3, 8)]) (Cr.put c (r := 9) (k := (Int32.toNatClampNeg 3)) (x := 16) (by decide +kernel) (by decide +kernel)) (fun S R I c => ?_)
  refine wp_putR (pc := 81) dX6_init_81 fl_LevelStore_25 (c.ok (by decide +kernel)) rfl (Or.inr ⟨rfl, rfl, rfl⟩) ?_
  refine cr_cut (m := 18) (pd := [(3, 5), (3, 6), (3, 7), (3, 8)]) (Cr.put c (r := 3) (k := 4) (x := 9) (by decide +kernel) (by decide +kernel)) (fun S R I c => ?_)
  first | refine wp_aload_n (pc := 84) dX6_init_84 rfl ?_ | refine wp_aload_nN (pc := 84) dX6_init_84 rfl ?_
  refine wp_new (pc := 85) dX6_init_85 ab_k2 cl_LevelStore_22 in_FileRow ini_FileRow (by decide) (by decide) ?_
  refine cr_cut (m := 19) (pd := [(18, 0), (3, 5), (3, 6), (3, 7), (3, 8)]) (c.new (m := 18) ⟨by decide, by decide, by decide⟩ (by decide +kernel) (refs_in (by decide) (by decide +kernel)) (by decide)) (fun S R I c => ?_)
  refine wp_dup (pc := 88) dX6_init_88 rfl ?_
  refine cv_LevelStore_24 (pc := 89) (c_X1_init (m := 18) (pd := [(3, 5), (3, 6), (3, 7), (3, 8)]) c (by decide) (by decide +kernel) (by decide +kernel) (fun k x q => al_R (by decide +kernel) q) (by decide +kernel) (by decide)) rfl dX6_init_89 ⟨by decide, by decide, by decide, by decide⟩ (Nat.le_of_ble_eq_true rfl) (fun v h hp => ?_)
  obtain ⟨rfl, S2, R2, I2, rfl, c2⟩ := hp
  refine cr_cut (m := 20) (pd := [(3, 5), (3, 6), (3, 7), (3, 8)]) c2 (fun S R I c => ?_)
  refine wp_putR (pc := 92) dX6_init_92 fl_LevelStore_29 (c.ok (by decide +kernel)) rfl (Or.inr ⟨rfl, rfl, rfl⟩) ?_
  refine cr_cut (m := 20) (pd := [(3, 6), (3, 7), (3, 8)]) (Cr.put c (r := 3) (k := 5) (x := 18) (by decide +kernel) (by decide +kernel)) (fun S R I c => ?_)
  first | refine wp_aload_n (pc := 95) dX6_init_95 rfl ?_ | refine wp_aload_nN (pc := 95) dX6_init_95 rfl ?_
  refine wp_new (pc := 96) dX6_init_96 ab_k1 cl_LevelStore_33 in_Field ini_Field (by decide) (by decide) ?_
  refine cr_cut (m := 21) (pd := [(20, 0), (20, 1), (20, 2), (3, 6), (3, 7), (3, 8)]) (c.new (m := 20) ⟨by decide, by decide, by decide⟩ (by decide +kernel) (refs_in (by decide) (by decide +kernel)) (by decide)) (fun S R I c => ?_)
  refine wp_dup (pc := 99) dX6_init_99 rfl ?_
  refine cv_LevelStore_35 (pc := 100) (c_X0_init c) rfl dX6_init_100 ⟨by decide, by decide, by decide, by decide⟩ (Nat.le_of_ble_eq_true rfl) (fun v h hp => ?_)
  obtain ⟨rfl, S2, R2, I2, rfl, c2⟩ := hp
  refine cr_cut (m := 24) (pd := [(3, 6), (3, 7), (3, 8)]) c2 (fun S R I c => ?_)
  refine wp_putR (pc := 103) dX6_init_103 fl_LevelStore_36 (c.ok (by decide +kernel)) rfl (Or.inr ⟨rfl, rfl, rfl⟩) ?_
  refine cr_cut (m := 24) (pd := [(3, 7), (3, 8)]) (Cr.put c (r := 3) (k := 6) (x := 20) (by decide +kernel) (by decide +kernel)) (fun S R I c => ?_)
  first | refine wp_aload_n (pc := 106) dX6_init_106 rfl ?_ | refine wp_aload_nN (pc := 106) dX6_init_106 rfl ?_
  refine wp_new (pc := 107) dX6_init_107 ab_k4 cl_LevelStore_40 in_Reading ini_Reading (by decide) (by decide) ?_
  refine cr_cut (m := 25) (pd := [(24, 0), (24, 1), (3, 7), (3, 8)]) (c.new (m := 24) ⟨by decide, by decide, by decide⟩ (by decide +kernel) (refs_in (by decide) (by decide +kernel)) (by decide)) (fun S R I c => ?_)
  refine wp_dup (pc := 110) dX6_init_110 rfl ?_
  refine cv_LevelStore_42 (pc := 111) (c_X3_init c) rfl dX6_init_111 ⟨by decide, by decide, by decide, by decide⟩ (Nat.le_of_ble_eq_true rfl) (fun v h hp => ?_)
  obtain ⟨rfl, S2, R2, I2, rfl, c2⟩ := hp
  refine cr_cut (m := 27) (pd := [(3, 7), (3, 8)]) c2 (fun S R I c => ?_)
  refine wp_putR (pc := 114) dX6_init_114 fl_LevelStore_43 (c.ok (by decide +kernel)) rfl (Or.inr ⟨rfl, rfl, rfl⟩) ?_
  refine cr_cut (m := 27) (pd := [(3, 8)]) (Cr.put c (r := 3) (k := 7) (x := 24) (by decide +kernel) (by decide +kernel)) (fun S R I c => ?_)
  first | refine wp_aload_n (pc := 117) dX6_init_117 rfl ?_ | refine wp_aload_nN (pc := 117) dX6_init_117 rfl ?_
  refine wp_new (pc := 118) dX6_init_118 ab_k3 cl_LevelStore_47 in_Job ini_Job (by decide) (by decide) ?_
  refine cr_cut (m := 28) (pd := [(27, 7), (27, 8), (27, 10), (27, 11), (3, 8)]) (c.new (m := 27) ⟨by decide, by decide, by decide⟩ (by decide +kernel) (refs_in (by decide) (by decide +kernel)) (by decide)) (fun S R I c => ?_)
  refine wp_dup (pc := 121) dX6_init_121 rfl ?_
  refine cv_LevelStore_49 (pc := 122) (c_X2_init c) rfl dX6_init_122 ⟨by decide, by decide, by decide, by decide⟩ (Nat.le_of_ble_eq_true rfl) (fun v h hp => ?_)
  obtain ⟨rfl, S2, R2, I2, rfl, c2⟩ := hp
  refine cr_cut (m := 39) (pd := [(3, 8)]) c2 (fun S R I c => ?_)
  refine wp_putR (pc := 125) dX6_init_125 fl_LevelStore_50 (c.ok (by decide +kernel)) rfl (Or.inr ⟨rfl, rfl, rfl⟩) ?_
  refine cr_cut (m := 39) (pd := []) (Cr.put c (r := 3) (k := 8) (x := 27) (by decide +kernel) (by decide +kernel)) (fun S R I c => ?_)
  refine wp_retv (pc := 128) dX6_init_128 rfl ?_
  exact ⟨rfl, S, R, I, rfl, c⟩
end CU
