/-! THE REFERENCE'S CONSTRUCTOR, AND THE FIRST STATE -/
section CV7
variable {sc : Nat × (Nat → Int32)} {n : Nat} {S : ab_SH} {R : ab_RR} {I : ab_II}
theorem m_init_loop (hX : Fx n S R) {I0 : ab_II} {mc ms : Nat} (post : ab_Po) (hpost : ∀ J, (∀ j, j ≠ 44 → J j = I0 j) → (∀ f, f < 330 → J 44 f = -1) → post none (n, S, R, J)) :
    ∀ (d t : Nat) (y : Int32) (J : ab_II) (L : List (Nat × Value)), 330 = t + d → y = nI t → (∀ j, j ≠ 44 → J j = I0 j) → (∀ f, f < t → J 44 f = -1) → ab_sub L [(0, .ref 39), (1, .int y)] → wp 1 20 mc ms MX7_init 239 L [] (n, S, R, J) post := by
  have z : (S 44).2 = 330 := hX.len (by decide)
  have t330 : (330 : Int32).toInt = 330 := by decide +kernel
  intro d
  induction d with
  | zero =>
    intro t y J L ht hy hf hv hL0
    refine wp_loc hL0 ?_
    have ey : y.toInt = t := by rw [hy, tI_n (by omega)]
    refine wp_iload_n (pc := 239) dX7_init_239 rfl ?_
    refine wp_sipush (pc := 240) (v := 330) dX7_init_240 (by decide) ?_
    refine wp_icmp_ge (pc := 243) (tgt := 259) dX7_init_243 (by decide) (fun hc => ?_) (fun hc => ?_)
    · skip
      refine wp_retv (pc := 259) dX7_init_259 rfl ?_
      exact hpost J hf (fun f q => hv f (by omega))
    · rw [t330] at hc; omega
  | succ d ih =>
    intro t y J L ht hy hf hv hL0
    refine wp_loc hL0 ?_
    have ey : y.toInt = t := by rw [hy, tI_n (by omega)]
    have cy : y.toNatClampNeg = t := by rw [tI_c]; omega
    refine wp_iload_n (pc := 239) dX7_init_239 rfl ?_
    refine wp_sipush (pc := 240) (v := 330) dX7_init_240 (by decide) ?_
    refine wp_icmp_ge (pc := 243) (tgt := 259) dX7_init_243 (by decide) (fun hc => ?_) (fun hc => ?_)
    · rw [t330] at hc; omega
    · skip
      first | refine wp_aload_n (pc := 246) dX7_init_246 rfl ?_ | refine wp_aload_nN (pc := 246) dX7_init_246 rfl ?_
      refine wp_getR (pc := 247) dX7_init_247 fl_LevelStoreModel_22 (by first | assumption | exact Fx.ok (by assumption) (by decide)) rfl (by first | assumption | exact Fx.ref (by assumption) rfl) ?_
      refine wp_iload_n (pc := 250) dX7_init_250 rfl ?_
      refine wp_iconst (pc := 251) (v := -1) dX7_init_251 (by decide) ?_
      refine wp_iastore (pc := 252) dX7_init_252 (by first | assumption | exact Fx.ok (by assumption) (by decide)) (in_I (by omega) (by rw [z]; omega)) ?_
      rw [cy]
      refine wp_iinc (pc := 253) dX7_init_253 rfl (by decide) rfl ?_
      refine wp_goto (pc := 256) (tgt := 239) dX7_init_256 (by decide) ?_
      refine ih (t + 1) _ _ _ (by omega) (by rw [hy]; exact nI_i1 t) (fun j q => by rw [ab_u2_r _ _ q]; exact hf j q) (fun f q => ?_) ⟨rfl, rfl, trivial⟩
      by_cases q2 : f = t
      · rw [q2, ab_u2_s]
      · rw [ab_u2_n _ _ (Or.inr q2)]; exact hv f (by omega)
theorem Cr.fx (c : Cr sc 66 [] S R I) : Fx 66 S R := by
  refine ⟨Nat.le_refl _, c.1.1, fun j k x h => ?_⟩
  have hT : fixT j ≠ [] := fun q => by unfold fixR at h; rw [q] at h; simp at h
  obtain ⟨a1, a2, a3, a4⟩ := fixT_big hT
  refine c.1.2.1 j k x a1 a2 List.not_mem_nil ?_
  unfold fixR2
  rw [if_neg (fun q => ?_)]
  · exact h
  · rcases q.1 with e | e | e | e | e | e <;> (subst e; exact a3 (by decide))
theorem c_X7_init (c : Cr sc 40 [(39, 3), (39, 4), (39, 5), (39, 7), (39, 8), (39, 9), (39, 10), (39, 11), (39, 12), (39, 13), (39, 14), (39, 15), (39, 17), (39, 19), (39, 24), (39, 25), (39, 26), (39, 27), (39, 28), (39, 33), (39, 34), (39, 35), (39, 37), (39, 38), (39, 39), (39, 40)] S R I) : wp 1 20 26 38100 MX7_init 0 [(0, .ref 39)] [] (40, S, R, I) (fun v h => v = none ∧ ∃ S2 R2 I2 J, h = (66, S2, R2, J) ∧ Cr sc 66 [] S2 R2 I2 ∧ (∀ j, j ≠ 44 → J j = I2 j) ∧ ∀ f, f < 330 → J 44 f = -1) := by
  first | refine wp_aload_n (pc := 0) dX7_init_0 rfl ?_ | refine wp_aload_nN (pc := 0) dX7_init_0 rfl ?_
  refine wp_objInit (pc := 1) dX7_init_1 ml_LevelStoreModel_1 im_objInit co_objInit (by decide) (Nat.le_of_ble_eq_true rfl) ?_
  first | refine wp_aload_n (pc := 4) dX7_init_4 rfl ?_ | refine wp_aload_nN (pc := 4) dX7_init_4 rfl ?_
  refine wp_bipush (pc := 5) (v := 24) dX7_init_5 (by decide) ?_
  refine wp_newI (pc := 7) dX7_init_7 ac_int (by decide) rfl (by decide) (by decide) (by decide) ?_
  refine cr_cut (m := 41) (pd := [(39, 3), (39, 4), (39, 5), (39, 7), (39, 8), (39, 9), (39, 10), (39, 11), (39, 12), (39, 13), (39, 14), (39, 15), (39, 17), (39, 19), (39, 24), (39, 25), (39, 26), (39, 27), (39, 28), (39, 33), (39, 34), (39, 35), (39, 37), (39, 38), (39, 39), (39, 40)]) (c.new (m := 40) ⟨by decide, by decide, by decide⟩ (by decide +kernel) (fun k x q => by rw [noR (by decide +kernel)] at q; cases q) (by decide)) (fun S R I c => ?_)
  refine wp_putR (pc := 9) dX7_init_9 fl_LevelStoreModel_7 (c.ok (by decide +kernel)) rfl (Or.inr ⟨rfl, rfl, rfl⟩) ?_
  refine cr_cut (m := 41) (pd := [(39, 4), (39, 5), (39, 7), (39, 8), (39, 9), (39, 10), (39, 11), (39, 12), (39, 13), (39, 14), (39, 15), (39, 17), (39, 19), (39, 24), (39, 25), (39, 26), (39, 27), (39, 28), (39, 33), (39, 34), (39, 35), (39, 37), (39, 38), (39, 39), (39, 40)]) (Cr.put c (r := 39) (k := 3) (x := 40) (by decide +kernel) (by decide +kernel)) (fun S R I c => ?_)
  first | refine wp_aload_n (pc := 12) dX7_init_12 rfl ?_ | refine wp_aload_nN (pc := 12) dX7_init_12 rfl ?_
  refine wp_bipush (pc := 13) (v := 24) dX7_init_13 (by decide) ?_
  refine wp_newI (pc := 15) dX7_init_15 ac_int (by decide) rfl (by decide) (by decide) (by decide) ?_
  refine cr_cut (m := 42) (pd := [(39, 4), (39, 5), (39, 7), (39, 8), (39, 9), (39, 10), (39, 11), (39, 12), (39, 13), (39, 14), (39, 15), (39, 17), (39, 19), (39, 24), (39, 25), (39, 26), (39, 27), (39, 28), (39, 33), (39, 34), (39, 35), (39, 37), (39, 38), (39, 39), (39, 40)]) (c.new (m := 41) ⟨by decide, by decide, by decide⟩ (by decide +kernel) (fun k x q => by rw [noR (by decide +kernel)] at q; cases q) (by decide)) (fun S R I c => ?_)
  refine wp_putR (pc := 17) dX7_init_17 fl_LevelStoreModel_13 (c.ok (by decide +kernel)) rfl (Or.inr ⟨rfl, rfl, rfl⟩) ?_
  refine cr_cut (m := 42) (pd := [(39, 5), (39, 7), (39, 8), (39, 9), (39, 10), (39, 11), (39, 12), (39, 13), (39, 14), (39, 15), (39, 17), (39, 19), (39, 24), (39, 25), (39, 26), (39, 27), (39, 28), (39, 33), (39, 34), (39, 35), (39, 37), (39, 38), (39, 39), (39, 40)]) (Cr.put c (r := 39) (k := 4) (x := 41) (by decide +kernel) (by decide +kernel)) (fun S R I c => ?_)
  first | refine wp_aload_n (pc := 20) dX7_init_20 rfl ?_ | refine wp_aload_nN (pc := 20) dX7_init_20 rfl ?_
  refine wp_bipush (pc := 21) (v := 24) dX7_init_21 (by decide) ?_
  refine wp_newI (pc := 23) dX7_init_23 ac_int (by decide) rfl (by decide) (by decide) (by decide) ?_
  refine cr_cut (m := 43) (pd := [(39, 5), (39, 7), (39, 8), (39, 9), (39, 10), (39, 11), (39, 12), (39, 13), (39, 14), (39, 15), (39, 17), (39, 19), (39, 24), (39, 25), (39, 26), (39, 27), (39, 28), (39, 33), (39, 34), (39, 35), (39, 37), (39, 38), (39, 39), (39, 40)]) (c.new (m := 42) ⟨by decide, by decide, by decide⟩ (by decide +kernel) (fun k x q => by rw [noR (by decide +kernel)] at q; cases q) (by decide)) (fun S R I c => ?_)
  refine wp_putR (pc := 25) dX7_init_25 fl_LevelStoreModel_16 (c.ok (by decide +kernel)) rfl (Or.inr ⟨rfl, rfl, rfl⟩) ?_
  refine cr_cut (m := 43) (pd := [(39, 7), (39, 8), (39, 9), (39, 10), (39, 11), (39, 12), (39, 13), (39, 14), (39, 15), (39, 17), (39, 19), (39, 24), (39, 25), (39, 26), (39, 27), (39, 28), (39, 33), (39, 34), (39, 35), (39, 37), (39, 38), (39, 39), (39, 40)]) (Cr.put c (r := 39) (k := 5) (x := 42) (by decide +kernel) (by decide +kernel)) (fun S R I c => ?_)
  first | refine wp_aload_n (pc := 28) dX7_init_28 rfl ?_ | refine wp_aload_nN (pc := 28) dX7_init_28 rfl ?_
  refine wp_iconst (pc := 29) (v := 3) dX7_init_29 (by decide) ?_
  refine wp_newI (pc := 30) dX7_init_30 ac_int (by decide) rfl (by decide) (by decide) (by decide) ?_
  have o8 : ab_ok (43 + 1) (ab_nS S 43 9 (Int32.toNatClampNeg 3)) 43 9 := ⟨by decide, by decide, by rw [ab_nS_at]⟩
  have z8 : (ab_nS S 43 9 (Int32.toNatClampNeg 3) 43).2 = 3 := by rw [ab_nS_at]; decide +kernel
  refine wp_dup (pc := 32) dX7_init_32 rfl ?_
  refine wp_iconst (pc := 33) (v := 0) dX7_init_33 (by decide) ?_
  refine wp_iconst (pc := 34) (v := -1) dX7_init_34 (by decide) ?_
  refine wp_iastore (pc := 35) dX7_init_35 (o8) (by rw [z8]; exact in_I (by decide) (by decide)) ?_
  refine wp_dup (pc := 36) dX7_init_36 rfl ?_
  refine wp_iconst (pc := 37) (v := 1) dX7_init_37 (by decide) ?_
  refine wp_iconst (pc := 38) (v := -1) dX7_init_38 (by decide) ?_
  refine wp_iastore (pc := 39) dX7_init_39 (o8) (by rw [z8]; exact in_I (by decide) (by decide)) ?_
  refine wp_dup (pc := 40) dX7_init_40 rfl ?_
  refine wp_iconst (pc := 41) (v := 2) dX7_init_41 (by decide) ?_
  refine wp_iconst (pc := 42) (v := -1) dX7_init_42 (by decide) ?_
  refine wp_iastore (pc := 43) dX7_init_43 (o8) (by rw [z8]; exact in_I (by decide) (by decide)) ?_
  refine cr_cut (m := 44) (pd := [(39, 7), (39, 8), (39, 9), (39, 10), (39, 11), (39, 12), (39, 13), (39, 14), (39, 15), (39, 17), (39, 19), (39, 24), (39, 25), (39, 26), (39, 27), (39, 28), (39, 33), (39, 34), (39, 35), (39, 37), (39, 38), (39, 39), (39, 40)]) (c.newV (m := 43) (Or.inr rfl) (by decide +kernel) (fun k x q => by rw [noR (by decide +kernel)] at q; cases q) (fun _ q => q) (by decide +kernel) (by decide +kernel) (by decide +kernel)) (fun S R I c => ?_)
  refine wp_putR (pc := 44) dX7_init_44 fl_LevelStoreModel_19 (c.ok (by decide +kernel)) rfl (Or.inr ⟨rfl, rfl, rfl⟩) ?_
  refine cr_cut (m := 44) (pd := [(39, 8), (39, 9), (39, 10), (39, 11), (39, 12), (39, 13), (39, 14), (39, 15), (39, 17), (39, 19), (39, 24), (39, 25), (39, 26), (39, 27), (39, 28), (39, 33), (39, 34), (39, 35), (39, 37), (39, 38), (39, 39), (39, 40)]) (Cr.put c (r := 39) (k := 7) (x := 43) (by decide +kernel) (by decide +kernel)) (fun S R I c => ?_)
  first | refine wp_aload_n (pc := 47) dX7_init_47 rfl ?_ | refine wp_aload_nN (pc := 47) dX7_init_47 rfl ?_
  refine wp_sipush (pc := 48) (v := 330) dX7_init_48 (by decide) ?_
  refine wp_newI (pc := 51) dX7_init_51 ac_int (by decide) rfl (by decide) (by decide) (by decide) ?_
  refine cr_cut (m := 45) (pd := [(39, 8), (39, 9), (39, 10), (39, 11), (39, 12), (39, 13), (39, 14), (39, 15), (39, 17), (39, 19), (39, 24), (39, 25), (39, 26), (39, 27), (39, 28), (39, 33), (39, 34), (39, 35), (39, 37), (39, 38), (39, 39), (39, 40)]) (c.new (m := 44) ⟨by decide, by decide, by decide⟩ (by decide +kernel) (fun k x q => by rw [noR (by decide +kernel)] at q; cases q) (by decide)) (fun S R I c => ?_)
  refine wp_putR (pc := 53) dX7_init_53 fl_LevelStoreModel_22 (c.ok (by decide +kernel)) rfl (Or.inr ⟨rfl, rfl, rfl⟩) ?_
  refine cr_cut (m := 45) (pd := [(39, 9), (39, 10), (39, 11), (39, 12), (39, 13), (39, 14), (39, 15), (39, 17), (39, 19), (39, 24), (39, 25), (39, 26), (39, 27), (39, 28), (39, 33), (39, 34), (39, 35), (39, 37), (39, 38), (39, 39), (39, 40)]) (Cr.put c (r := 39) (k := 8) (x := 44) (by decide +kernel) (by decide +kernel)) (fun S R I c => ?_)
  first | refine wp_aload_n (pc := 56) dX7_init_56 rfl ?_ | refine wp_aload_nN (pc := 56) dX7_init_56 rfl ?_
  refine wp_sipush (pc := 57) (v := 330) dX7_init_57 (by decide) ?_
  refine wp_newI (pc := 60) dX7_init_60 ac_int (by decide) rfl (by decide) (by decide) (by decide) ?_
  refine cr_cut (m := 46) (pd := [(39, 9), (39, 10), (39, 11), (39, 12), (39, 13), (39, 14), (39, 15), (39, 17), (39, 19), (39, 24), (39, 25), (39, 26), (39, 27), (39, 28), (39, 33), (39, 34), (39, 35), (39, 37), (39, 38), (39, 39), (39, 40)]) (c.new (m := 45) ⟨by decide, by decide, by decide⟩ (by decide +kernel) (fun k x q => by rw [noR (by decide +kernel)] at q; cases q) (by decide)) (fun S R I c => ?_)
  refine wp_putR (pc := 62) dX7_init_62 fl_LevelStoreModel_25 (c.ok (by decide +kernel)) rfl (Or.inr ⟨rfl, rfl, rfl⟩) ?_
  refine cr_cut (m := 46) (pd := [(39, 10), (39, 11), (39, 12), (39, 13), (39, 14), (39, 15), (39, 17), (39, 19), (39, 24), (39, 25), (39, 26), (39, 27), (39, 28), (39, 33), (39, 34), (39, 35), (39, 37), (39, 38), (39, 39), (39, 40)]) (Cr.put c (r := 39) (k := 9) (x := 45) (by decide +kernel) (by decide +kernel)) (fun S R I c => ?_)
  first | refine wp_aload_n (pc := 65) dX7_init_65 rfl ?_ | refine wp_aload_nN (pc := 65) dX7_init_65 rfl ?_
  refine wp_sipush (pc := 66) (v := 330) dX7_init_66 (by decide) ?_
  refine wp_newI (pc := 69) dX7_init_69 ac_int (by decide) rfl (by decide) (by decide) (by decide) ?_
  refine cr_cut (m := 47) (pd := [(39, 10), (39, 11), (39, 12), (39, 13), (39, 14), (39, 15), (39, 17), (39, 19), (39, 24), (39, 25), (39, 26), (39, 27), (39, 28), (39, 33), (39, 34), (39, 35), (39, 37), (39, 38), (39, 39), (39, 40)]) (c.new (m := 46) ⟨by decide, by decide, by decide⟩ (by decide +kernel) (fun k x q => by rw [noR (by decide +kernel)] at q; cases q) (by decide)) (fun S R I c => ?_)
  refine wp_putR (pc := 71) dX7_init_71 fl_LevelStoreModel_28 (c.ok (by decide +kernel)) rfl (Or.inr ⟨rfl, rfl, rfl⟩) ?_
  refine cr_cut (m := 47) (pd := [(39, 11), (39, 12), (39, 13), (39, 14), (39, 15), (39, 17), (39, 19), (39, 24), (39, 25), (39, 26), (39, 27), (39, 28), (39, 33), (39, 34), (39, 35), (39, 37), (39, 38), (39, 39), (39, 40)]) (Cr.put c (r := 39) (k := 10) (x := 46) (by decide +kernel) (by decide +kernel)) (fun S R I c => ?_)
  first | refine wp_aload_n (pc := 74) dX7_init_74 rfl ?_ | refine wp_aload_nN (pc := 74) dX7_init_74 rfl ?_
  refine wp_sipush (pc := 75) (v := 330) dX7_init_75 (by decide) ?_
  refine wp_newI (pc := 78) dX7_init_78 ac_int (by decide) rfl (by decide) (by decide) (by decide) ?_
  refine cr_cut (m := 48) (pd := [(39, 11), (39, 12), (39, 13), (39, 14), (39, 15), (39, 17), (39, 19), (39, 24), (39, 25), (39, 26), (39, 27), (39, 28), (39, 33), (39, 34), (39, 35), (39, 37), (39, 38), (39, 39), (39, 40)]) (c.new (m := 47) ⟨by decide, by decide, by decide⟩ (by decide +kernel) (fun k x q => by rw [noR (by decide +kernel)] at q; cases q) (by decide)) (fun S R I c => ?_)
  refine wp_putR (pc := 80) dX7_init_80 fl_LevelStoreModel_31 (c.ok (by decide +kernel)) rfl (Or.inr ⟨rfl, rfl, rfl⟩) ?_
  refine cr_cut (m := 48) (pd := [(39, 12), (39, 13), (39, 14), (39, 15), (39, 17), (39, 19), (39, 24), (39, 25), (39, 26), (39, 27), (39, 28), (39, 33), (39, 34), (39, 35), (39, 37), (39, 38), (39, 39), (39, 40)]) (Cr.put c (r := 39) (k := 11) (x := 47) (by decide +kernel) (by decide +kernel)) (fun S R I c => ?_)
  first | refine wp_aload_n (pc := 83) dX7_init_83 rfl ?_ | refine wp_aload_nN (pc := 83) dX7_init_83 rfl ?_
  refine wp_sipush (pc := 84) (v := 330) dX7_init_84 (by decide) ?_
  refine wp_newI (pc := 87) dX7_init_87 ac_int (by decide) rfl (by decide) (by decide) (by decide) ?_
  refine cr_cut (m := 49) (pd := [(39, 12), (39, 13), (39, 14), (39, 15), (39, 17), (39, 19), (39, 24), (39, 25), (39, 26), (39, 27), (39, 28), (39, 33), (39, 34), (39, 35), (39, 37), (39, 38), (39, 39), (39, 40)]) (c.new (m := 48) ⟨by decide, by decide, by decide⟩ (by decide +kernel) (fun k x q => by rw [noR (by decide +kernel)] at q; cases q) (by decide)) (fun S R I c => ?_)
  refine wp_putR (pc := 89) dX7_init_89 fl_LevelStoreModel_34 (c.ok (by decide +kernel)) rfl (Or.inr ⟨rfl, rfl, rfl⟩) ?_
  refine cr_cut (m := 49) (pd := [(39, 13), (39, 14), (39, 15), (39, 17), (39, 19), (39, 24), (39, 25), (39, 26), (39, 27), (39, 28), (39, 33), (39, 34), (39, 35), (39, 37), (39, 38), (39, 39), (39, 40)]) (Cr.put c (r := 39) (k := 12) (x := 48) (by decide +kernel) (by decide +kernel)) (fun S R I c => ?_)
  first | refine wp_aload_n (pc := 92) dX7_init_92 rfl ?_ | refine wp_aload_nN (pc := 92) dX7_init_92 rfl ?_
  refine wp_sipush (pc := 93) (v := 9900) dX7_init_93 (by decide) ?_
  refine wp_newI (pc := 96) dX7_init_96 ac_int (by decide) rfl (by decide) (by decide) (by decide) ?_
  refine cr_cut (m := 50) (pd := [(39, 13), (39, 14), (39, 15), (39, 17), (39, 19), (39, 24), (39, 25), (39, 26), (39, 27), (39, 28), (39, 33), (39, 34), (39, 35), (39, 37), (39, 38), (39, 39), (39, 40)]) (c.new (m := 49) ⟨by decide, by decide, by decide⟩ (by decide +kernel) (fun k x q => by rw [noR (by decide +kernel)] at q; cases q) (by decide)) (fun S R I c => ?_)
  refine wp_putR (pc := 98) dX7_init_98 fl_LevelStoreModel_37 (c.ok (by decide +kernel)) rfl (Or.inr ⟨rfl, rfl, rfl⟩) ?_
  refine cr_cut (m := 50) (pd := [(39, 14), (39, 15), (39, 17), (39, 19), (39, 24), (39, 25), (39, 26), (39, 27), (39, 28), (39, 33), (39, 34), (39, 35), (39, 37), (39, 38), (39, 39), (39, 40)]) (Cr.put c (r := 39) (k := 13) (x := 49) (by decide +kernel) (by decide +kernel)) (fun S R I c => ?_)
  first | refine wp_aload_n (pc := 101) dX7_init_101 rfl ?_ | refine wp_aload_nN (pc := 101) dX7_init_101 rfl ?_
  refine wp_sipush (pc := 102) (v := 9900) dX7_init_102 (by decide) ?_
  refine wp_newI (pc := 105) dX7_init_105 ac_int (by decide) rfl (by decide) (by decide) (by decide) ?_
  refine cr_cut (m := 51) (pd := [(39, 14), (39, 15), (39, 17), (39, 19), (39, 24), (39, 25), (39, 26), (39, 27), (39, 28), (39, 33), (39, 34), (39, 35), (39, 37), (39, 38), (39, 39), (39, 40)]) (c.new (m := 50) ⟨by decide, by decide, by decide⟩ (by decide +kernel) (fun k x q => by rw [noR (by decide +kernel)] at q; cases q) (by decide)) (fun S R I c => ?_)
  refine wp_putR (pc := 107) dX7_init_107 fl_LevelStoreModel_40 (c.ok (by decide +kernel)) rfl (Or.inr ⟨rfl, rfl, rfl⟩) ?_
  refine cr_cut (m := 51) (pd := [(39, 15), (39, 17), (39, 19), (39, 24), (39, 25), (39, 26), (39, 27), (39, 28), (39, 33), (39, 34), (39, 35), (39, 37), (39, 38), (39, 39), (39, 40)]) (Cr.put c (r := 39) (k := 14) (x := 50) (by decide +kernel) (by decide +kernel)) (fun S R I c => ?_)
  first | refine wp_aload_n (pc := 110) dX7_init_110 rfl ?_ | refine wp_aload_nN (pc := 110) dX7_init_110 rfl ?_
  refine wp_sipush (pc := 111) (v := 9900) dX7_init_111 (by decide) ?_
  refine wp_newI (pc := 114) dX7_init_114 ac_int (by decide) rfl (by decide) (by decide) (by decide) ?_
  refine cr_cut (m := 52) (pd := [(39, 15), (39, 17), (39, 19), (39, 24), (39, 25), (39, 26), (39, 27), (39, 28), (39, 33), (39, 34), (39, 35), (39, 37), (39, 38), (39, 39), (39, 40)]) (c.new (m := 51) ⟨by decide, by decide, by decide⟩ (by decide +kernel) (fun k x q => by rw [noR (by decide +kernel)] at q; cases q) (by decide)) (fun S R I c => ?_)
  refine wp_putR (pc := 116) dX7_init_116 fl_LevelStoreModel_43 (c.ok (by decide +kernel)) rfl (Or.inr ⟨rfl, rfl, rfl⟩) ?_
  refine cr_cut (m := 52) (pd := [(39, 17), (39, 19), (39, 24), (39, 25), (39, 26), (39, 27), (39, 28), (39, 33), (39, 34), (39, 35), (39, 37), (39, 38), (39, 39), (39, 40)]) (Cr.put c (r := 39) (k := 15) (x := 51) (by decide +kernel) (by decide +kernel)) (fun S R I c => ?_)
  first | refine wp_aload_n (pc := 119) dX7_init_119 rfl ?_ | refine wp_aload_nN (pc := 119) dX7_init_119 rfl ?_
  refine wp_sipush (pc := 120) (v := 1500) dX7_init_120 (by decide) ?_
  refine wp_newI (pc := 123) dX7_init_123 ac_int (by decide) rfl (by decide) (by decide) (by decide) ?_
  refine cr_cut (m := 53) (pd := [(39, 17), (39, 19), (39, 24), (39, 25), (39, 26), (39, 27), (39, 28), (39, 33), (39, 34), (39, 35), (39, 37), (39, 38), (39, 39), (39, 40)]) (c.new (m := 52) ⟨by decide, by decide, by decide⟩ (by decide +kernel) (fun k x q => by rw [noR (by decide +kernel)] at q; cases q) (by decide)) (fun S R I c => ?_)
  refine wp_putR (pc := 125) dX7_init_125 fl_LevelStoreModel_46 (c.ok (by decide +kernel)) rfl (Or.inr ⟨rfl, rfl, rfl⟩) ?_
  refine cr_cut (m := 53) (pd := [(39, 19), (39, 24), (39, 25), (39, 26), (39, 27), (39, 28), (39, 33), (39, 34), (39, 35), (39, 37), (39, 38), (39, 39), (39, 40)]) (Cr.put c (r := 39) (k := 17) (x := 52) (by decide +kernel) (by decide +kernel)) (fun S R I c => ?_)
  first | refine wp_aload_n (pc := 128) dX7_init_128 rfl ?_ | refine wp_aload_nN (pc := 128) dX7_init_128 rfl ?_
  refine wp_sipush (pc := 129) (v := 330) dX7_init_129 (by decide) ?_
  refine wp_newI (pc := 132) dX7_init_132 ac_int (by decide) rfl (by decide) (by decide) (by decide) ?_
  refine cr_cut (m := 54) (pd := [(39, 19), (39, 24), (39, 25), (39, 26), (39, 27), (39, 28), (39, 33), (39, 34), (39, 35), (39, 37), (39, 38), (39, 39), (39, 40)]) (c.new (m := 53) ⟨by decide, by decide, by decide⟩ (by decide +kernel) (fun k x q => by rw [noR (by decide +kernel)] at q; cases q) (by decide)) (fun S R I c => ?_)
  refine wp_putR (pc := 134) dX7_init_134 fl_LevelStoreModel_49 (c.ok (by decide +kernel)) rfl (Or.inr ⟨rfl, rfl, rfl⟩) ?_
  refine cr_cut (m := 54) (pd := [(39, 24), (39, 25), (39, 26), (39, 27), (39, 28), (39, 33), (39, 34), (39, 35), (39, 37), (39, 38), (39, 39), (39, 40)]) (Cr.put c (r := 39) (k := 19) (x := 53) (by decide +kernel) (by decide +kernel)) (fun S R I c => ?_)
  first | refine wp_aload_n (pc := 137) dX7_init_137 rfl ?_ | refine wp_aload_nN (pc := 137) dX7_init_137 rfl ?_
  refine wp_sipush (pc := 138) (v := 1200) dX7_init_138 (by decide) ?_
  refine wp_newI (pc := 141) dX7_init_141 ac_int (by decide) rfl (by decide) (by decide) (by decide) ?_
  refine cr_cut (m := 55) (pd := [(39, 24), (39, 25), (39, 26), (39, 27), (39, 28), (39, 33), (39, 34), (39, 35), (39, 37), (39, 38), (39, 39), (39, 40)]) (c.new (m := 54) ⟨by decide, by decide, by decide⟩ (by decide +kernel) (fun k x q => by rw [noR (by decide +kernel)] at q; cases q) (by decide)) (fun S R I c => ?_)
  refine wp_putR (pc := 143) dX7_init_143 fl_LevelStoreModel_52 (c.ok (by decide +kernel)) rfl (Or.inr ⟨rfl, rfl, rfl⟩) ?_
  refine cr_cut (m := 55) (pd := [(39, 25), (39, 26), (39, 27), (39, 28), (39, 33), (39, 34), (39, 35), (39, 37), (39, 38), (39, 39), (39, 40)]) (Cr.put c (r := 39) (k := 24) (x := 54) (by decide +kernel) (by decide +kernel)) (fun S R I c => ?_)
  first | refine wp_aload_n (pc := 146) dX7_init_146 rfl ?_ | refine wp_aload_nN (pc := 146) dX7_init_146 rfl ?_
  refine wp_sipush (pc := 147) (v := 1200) dX7_init_147 (by decide) ?_
  refine wp_newI (pc := 150) dX7_init_150 ac_int (by decide) rfl (by decide) (by decide) (by decide) ?_
  refine cr_cut (m := 56) (pd := [(39, 25), (39, 26), (39, 27), (39, 28), (39, 33), (39, 34), (39, 35), (39, 37), (39, 38), (39, 39), (39, 40)]) (c.new (m := 55) ⟨by decide, by decide, by decide⟩ (by decide +kernel) (fun k x q => by rw [noR (by decide +kernel)] at q; cases q) (by decide)) (fun S R I c => ?_)
  refine wp_putR (pc := 152) dX7_init_152 fl_LevelStoreModel_55 (c.ok (by decide +kernel)) rfl (Or.inr ⟨rfl, rfl, rfl⟩) ?_
  refine cr_cut (m := 56) (pd := [(39, 26), (39, 27), (39, 28), (39, 33), (39, 34), (39, 35), (39, 37), (39, 38), (39, 39), (39, 40)]) (Cr.put c (r := 39) (k := 25) (x := 55) (by decide +kernel) (by decide +kernel)) (fun S R I c => ?_)
  first | refine wp_aload_n (pc := 155) dX7_init_155 rfl ?_ | refine wp_aload_nN (pc := 155) dX7_init_155 rfl ?_
  refine wp_sipush (pc := 156) (v := 1200) dX7_init_156 (by decide) ?_
  refine wp_newI (pc := 159) dX7_init_159 ac_int (by decide) rfl (by decide) (by decide) (by decide) ?_
  refine cr_cut (m := 57) (pd := [(39, 26), (39, 27), (39, 28), (39, 33), (39, 34), (39, 35), (39, 37), (39, 38), (39, 39), (39, 40)]) (c.new (m := 56) ⟨by decide, by decide, by decide⟩ (by decide +kernel) (fun k x q => by rw [noR (by decide +kernel)] at q; cases q) (by decide)) (fun S R I c => ?_)
  refine wp_putR (pc := 161) dX7_init_161 fl_LevelStoreModel_58 (c.ok (by decide +kernel)) rfl (Or.inr ⟨rfl, rfl, rfl⟩) ?_
  refine cr_cut (m := 57) (pd := [(39, 27), (39, 28), (39, 33), (39, 34), (39, 35), (39, 37), (39, 38), (39, 39), (39, 40)]) (Cr.put c (r := 39) (k := 26) (x := 56) (by decide +kernel) (by decide +kernel)) (fun S R I c => ?_)
  first | refine wp_aload_n (pc := 164) dX7_init_164 rfl ?_ | refine wp_aload_nN (pc := 164) dX7_init_164 rfl ?_
  refine wp_sipush (pc := 165) (v := 330) dX7_init_165 (by decide) ?_
  refine wp_newZ (pc := 168) dX7_init_168 ac_boolean (by decide) rfl (by decide) (by decide) (by decide) ?_
  refine cr_cut (m := 58) (pd := [(39, 27), (39, 28), (39, 33), (39, 34), (39, 35), (39, 37), (39, 38), (39, 39), (39, 40)]) (c.new (m := 57) ⟨by decide, by decide, by decide⟩ (by decide +kernel) (fun k x q => by rw [noR (by decide +kernel)] at q; cases q) (by decide)) (fun S R I c => ?_)
  refine wp_putR (pc := 170) dX7_init_170 fl_LevelStoreModel_61 (c.ok (by decide +kernel)) rfl (Or.inr ⟨rfl, rfl, rfl⟩) ?_
  refine cr_cut (m := 58) (pd := [(39, 28), (39, 33), (39, 34), (39, 35), (39, 37), (39, 38), (39, 39), (39, 40)]) (Cr.put c (r := 39) (k := 27) (x := 57) (by decide +kernel) (by decide +kernel)) (fun S R I c => ?_)
  first | refine wp_aload_n (pc := 173) dX7_init_173 rfl ?_ | refine wp_aload_nN (pc := 173) dX7_init_173 rfl ?_
  refine wp_iconst (pc := 174) (v := 3) dX7_init_174 (by decide) ?_
  refine wp_newI (pc := 175) dX7_init_175 ac_int (by decide) rfl (by decide) (by decide) (by decide) ?_
  refine cr_cut (m := 59) (pd := [(39, 28), (39, 33), (39, 34), (39, 35), (39, 37), (39, 38), (39, 39), (39, 40)]) (c.new (m := 58) ⟨by decide, by decide, by decide⟩ (by decide +kernel) (fun k x q => by rw [noR (by decide +kernel)] at q; cases q) (by decide)) (fun S R I c => ?_)
  refine wp_putR (pc := 177) dX7_init_177 fl_LevelStoreModel_65 (c.ok (by decide +kernel)) rfl (Or.inr ⟨rfl, rfl, rfl⟩) ?_
  refine cr_cut (m := 59) (pd := [(39, 33), (39, 34), (39, 35), (39, 37), (39, 38), (39, 39), (39, 40)]) (Cr.put c (r := 39) (k := 28) (x := 58) (by decide +kernel) (by decide +kernel)) (fun S R I c => ?_)
  first | refine wp_aload_n (pc := 180) dX7_init_180 rfl ?_ | refine wp_aload_nN (pc := 180) dX7_init_180 rfl ?_
  refine wp_bipush (pc := 181) (v := 40) dX7_init_181 (by decide) ?_
  refine wp_newI (pc := 183) dX7_init_183 ac_int (by decide) rfl (by decide) (by decide) (by decide) ?_
  refine cr_cut (m := 60) (pd := [(39, 33), (39, 34), (39, 35), (39, 37), (39, 38), (39, 39), (39, 40)]) (c.new (m := 59) ⟨by decide, by decide, by decide⟩ (by decide +kernel) (fun k x q => by rw [noR (by decide +kernel)] at q; cases q) (by decide)) (fun S R I c => ?_)
  refine wp_putR (pc := 185) dX7_init_185 fl_LevelStoreModel_68 (c.ok (by decide +kernel)) rfl (Or.inr ⟨rfl, rfl, rfl⟩) ?_
  refine cr_cut (m := 60) (pd := [(39, 34), (39, 35), (39, 37), (39, 38), (39, 39), (39, 40)]) (Cr.put c (r := 39) (k := 33) (x := 59) (by decide +kernel) (by decide +kernel)) (fun S R I c => ?_)
  first | refine wp_aload_n (pc := 188) dX7_init_188 rfl ?_ | refine wp_aload_nN (pc := 188) dX7_init_188 rfl ?_
  refine wp_bipush (pc := 189) (v := 40) dX7_init_189 (by decide) ?_
  refine wp_newI (pc := 191) dX7_init_191 ac_int (by decide) rfl (by decide) (by decide) (by decide) ?_
  refine cr_cut (m := 61) (pd := [(39, 34), (39, 35), (39, 37), (39, 38), (39, 39), (39, 40)]) (c.new (m := 60) ⟨by decide, by decide, by decide⟩ (by decide +kernel) (fun k x q => by rw [noR (by decide +kernel)] at q; cases q) (by decide)) (fun S R I c => ?_)
  refine wp_putR (pc := 193) dX7_init_193 fl_LevelStoreModel_71 (c.ok (by decide +kernel)) rfl (Or.inr ⟨rfl, rfl, rfl⟩) ?_
  refine cr_cut (m := 61) (pd := [(39, 35), (39, 37), (39, 38), (39, 39), (39, 40)]) (Cr.put c (r := 39) (k := 34) (x := 60) (by decide +kernel) (by decide +kernel)) (fun S R I c => ?_)
  first | refine wp_aload_n (pc := 196) dX7_init_196 rfl ?_ | refine wp_aload_nN (pc := 196) dX7_init_196 rfl ?_
  refine wp_bipush (pc := 197) (v := 40) dX7_init_197 (by decide) ?_
  refine wp_newI (pc := 199) dX7_init_199 ac_int (by decide) rfl (by decide) (by decide) (by decide) ?_
  refine cr_cut (m := 62) (pd := [(39, 35), (39, 37), (39, 38), (39, 39), (39, 40)]) (c.new (m := 61) ⟨by decide, by decide, by decide⟩ (by decide +kernel) (fun k x q => by rw [noR (by decide +kernel)] at q; cases q) (by decide)) (fun S R I c => ?_)
  refine wp_putR (pc := 201) dX7_init_201 fl_LevelStoreModel_74 (c.ok (by decide +kernel)) rfl (Or.inr ⟨rfl, rfl, rfl⟩) ?_
  refine cr_cut (m := 62) (pd := [(39, 37), (39, 38), (39, 39), (39, 40)]) (Cr.put c (r := 39) (k := 35) (x := 61) (by decide +kernel) (by decide +kernel)) (fun S R I c => ?_)
  first | refine wp_aload_n (pc := 204) dX7_init_204 rfl ?_ | refine wp_aload_nN (pc := 204) dX7_init_204 rfl ?_
  refine wp_sipush (pc := 205) (v := 600) dX7_init_205 (by decide) ?_
  refine wp_newI (pc := 208) dX7_init_208 ac_int (by decide) rfl (by decide) (by decide) (by decide) ?_
  refine cr_cut (m := 63) (pd := [(39, 37), (39, 38), (39, 39), (39, 40)]) (c.new (m := 62) ⟨by decide, by decide, by decide⟩ (by decide +kernel) (fun k x q => by rw [noR (by decide +kernel)] at q; cases q) (by decide)) (fun S R I c => ?_)
  refine wp_putR (pc := 210) dX7_init_210 fl_LevelStoreModel_77 (c.ok (by decide +kernel)) rfl (Or.inr ⟨rfl, rfl, rfl⟩) ?_
  refine cr_cut (m := 63) (pd := [(39, 38), (39, 39), (39, 40)]) (Cr.put c (r := 39) (k := 37) (x := 62) (by decide +kernel) (by decide +kernel)) (fun S R I c => ?_)
  first | refine wp_aload_n (pc := 213) dX7_init_213 rfl ?_ | refine wp_aload_nN (pc := 213) dX7_init_213 rfl ?_
  refine wp_bipush (pc := 214) (v := 40) dX7_init_214 (by decide) ?_
  refine wp_newI (pc := 216) dX7_init_216 ac_int (by decide) rfl (by decide) (by decide) (by decide) ?_
  refine cr_cut (m := 64) (pd := [(39, 38), (39, 39), (39, 40)]) (c.new (m := 63) ⟨by decide, by decide, by decide⟩ (by decide +kernel) (fun k x q => by rw [noR (by decide +kernel)] at q; cases q) (by decide)) (fun S R I c => ?_)
  refine wp_putR (pc := 218) dX7_init_218 fl_LevelStoreModel_80 (c.ok (by decide +kernel)) rfl (Or.inr ⟨rfl, rfl, rfl⟩) ?_
  refine cr_cut (m := 64) (pd := [(39, 39), (39, 40)]) (Cr.put c (r := 39) (k := 38) (x := 63) (by decide +kernel) (by decide +kernel)) (fun S R I c => ?_)
  first | refine wp_aload_n (pc := 221) dX7_init_221 rfl ?_ | refine wp_aload_nN (pc := 221) dX7_init_221 rfl ?_
  refine wp_bipush (pc := 222) (v := 40) dX7_init_222 (by decide) ?_
  refine wp_newI (pc := 224) dX7_init_224 ac_int (by decide) rfl (by decide) (by decide) (by decide) ?_
  refine cr_cut (m := 65) (pd := [(39, 39), (39, 40)]) (c.new (m := 64) ⟨by decide, by decide, by decide⟩ (by decide +kernel) (fun k x q => by rw [noR (by decide +kernel)] at q; cases q) (by decide)) (fun S R I c => ?_)
  refine wp_putR (pc := 226) dX7_init_226 fl_LevelStoreModel_83 (c.ok (by decide +kernel)) rfl (Or.inr ⟨rfl, rfl, rfl⟩) ?_
  refine cr_cut (m := 65) (pd := [(39, 40)]) (Cr.put c (r := 39) (k := 39) (x := 64) (by decide +kernel) (by decide +kernel)) (fun S R I c => ?_)
  first | refine wp_aload_n (pc := 229) dX7_init_229 rfl ?_ | refine wp_aload_nN (pc := 229) dX7_init_229 rfl ?_
  refine wp_bipush (pc := 230) (v := 40) dX7_init_230 (by decide) ?_
  refine wp_newI (pc := 232) dX7_init_232 ac_int (by decide) rfl (by decide) (by decide) (by decide) ?_
  refine cr_cut (m := 66) (pd := [(39, 40)]) (c.new (m := 65) ⟨by decide, by decide, by decide⟩ (by decide +kernel) (fun k x q => by rw [noR (by decide +kernel)] at q; cases q) (by decide)) (fun S R I c => ?_)
  refine wp_putR (pc := 234) dX7_init_234 fl_LevelStoreModel_86 (c.ok (by decide +kernel)) rfl (Or.inr ⟨rfl, rfl, rfl⟩) ?_
  refine cr_cut (m := 66) (pd := []) (Cr.put c (r := 39) (k := 40) (x := 65) (by decide +kernel) (by decide +kernel)) (fun S R I c => ?_)
  refine wp_iconst (pc := 237) (v := 0) dX7_init_237 (by decide) ?_
  refine wp_istore_n (pc := 238) dX7_init_238 (by decide) rfl ?_
  exact m_init_loop c.fx (I0 := I) _ (fun J hf hv => ⟨rfl, S, R, I, J, rfl, c, hf, hv⟩) 330 0 _ I _ rfl rfl (fun _ _ => rfl) (fun f q => by omega) ⟨rfl, rfl, trivial⟩
/-- the first state -/
def St0 (V B : Nat → Int32) : St := (([], 0, 0, V), ((fun _ => []), B, 0), (false, 0, (0, 0, 0, 0), [], 0, [], V))
theorem Inv0 {V B : Nat → Int32} (hV : ∀ k, k < 3 → V k = -1) : Inv 0 (St0 V B) := by
  refine ⟨⟨⟨Nat.zero_le _, Nat.le_refl _, Nat.le_refl _, by decide, fun k hk => Or.inl (hV k hk)⟩, fun e he => absurd he List.not_mem_nil, fun v => Nat.zero_le _, fun k _ F hF => absurd hF List.not_mem_nil, fun j => Nat.zero_le _, fun k _ _ a b F G _ hF => by simp [St.FS, St0] at hF, ⟨Nat.le_refl _, Nat.le_refl _, fun k _ F hF => absurd hF List.not_mem_nil, fun i F hF => by simp [St.FS, St0] at hF, fun a b F G _ hF => by simp [St.FS, St0] at hF⟩, Nat.le_refl _⟩, Or.inl ⟨rfl, rfl, rfl, rfl, rfl⟩⟩
theorem Cr.rc (c : Cr sc 66 [] S R I) {J : ab_II} (hJ : ∀ j, j ≠ 44 → J j = I j) : RC (St0 (J 8) (J 21)) 66 S R J (fun _ => (0, 0)) (fun _ => []) [] := by
  have z : ∀ j k, 3 ≤ j ∧ j < 66 ∧ j ≠ 8 ∧ j ≠ 43 ∧ j ≠ 44 → J j k = 0 := fun j k h => by rw [hJ j h.2.2.2.2]; exact c.1.2.2 j k h.1 h.2.1 h.2.2.1 h.2.2.2.1
  have hX := c.fx
  have up4 : va_up (St0 (J 8) (J 21)).FS 4 [] = fun _ => [] := by
    funext k
    by_cases q : k = 4
    · rw [q, up_at]
    · rw [up_ne q]; rfl
  refine ⟨⟨hX, ⟨fun k hk => ⟨⟨?_, ?_, ?_, Nat.zero_le _, Nat.zero_le _, Or.inl ⟨rfl, rfl⟩, fun i q h => by simp at h, fun q h => absurd h List.not_mem_nil⟩, ⟨(by rw [up4]; rfl), fun i q F h => by simp at h⟩, Nat.zero_le _⟩, fun i j _ _ _ h => absurd rfl h, fun i j a b q _ _ h => by simp at h⟩, by decide⟩, ⟨nil_rl (z 4 3 (by decide)), ⟨z 3 1 (by decide), z 3 2 (by decide), z 3 9 (by decide)⟩, rfl, rfl, ⟨fun j => Or.inl (z 22 j (by decide)), fun j _ => ⟨fun q => absurd (z 22 j (by decide)) q, ?_⟩⟩⟩, ⟨z 27 0 (by decide), z 27 9 (by decide), fun q => by cases q⟩, nil_rl (z 28 3 (by decide)), nil_rl (z 33 3 (by decide)), fun k hk => absurd hk (Nat.not_lt_zero k)⟩
  · have hx : ∀ k, k < 6 → 3 ≤ xk k ∧ xk k < 66 ∧ (fixS (xk k)).1 = 0 := by decide +kernel
    exact hX.ok (hx k hk)
  · have hx : ∀ k, k < 6 → 3 ≤ xk k ∧ xk k < 66 ∧ fixR2 (xk k) 1 = some 0 := by decide +kernel
    exact c.1.2.1 _ _ _ (hx k hk).1 (hx k hk).2.1 List.not_mem_nil (hx k hk).2.2
  · have hx : ∀ k, k < 6 → 3 ≤ xk k ∧ xk k < 66 ∧ xk k ≠ 8 ∧ xk k ≠ 43 ∧ xk k ≠ 44 := by decide +kernel
    exact z _ _ (hx k hk)
  · rintro ⟨k, a, F, -, hF, -⟩
    simp [St.FS, St0] at hF
theorem Cr.rm (c : Cr sc 66 [] S R I) {J : ab_II} (hJ : ∀ j, j ≠ 44 → J j = I j) (h44 : ∀ f, f < 330 → J 44 f = -1) : RM (St0 (J 8) (J 21)) J (fun _ => []) := by
  have z : ∀ j k, 3 ≤ j ∧ j < 66 ∧ j ≠ 8 ∧ j ≠ 43 ∧ j ≠ 44 → J j k = 0 := fun j k h => by rw [hJ j h.2.2.2.2]; exact c.1.2.2 j k h.1 h.2.1 h.2.2.1 h.2.2.2.1
  refine ⟨⟨⟨z 39 1 (by decide), fun j e q => by simp [St.log, St0] at q⟩, ⟨z 39 2 (by decide), z 39 6 (by decide), fun k hk => ?_⟩, ⟨fun k _ => ⟨rfl, List.nodup_nil, fun a f F q => by simp at q⟩, fun f hf => Or.inl (h44 f hf)⟩, ⟨z 39 16 (by decide), fun j _ => ?_⟩, ⟨z 39 20 (by decide), z 39 30 (by decide), fun q => by cases q⟩⟩, fun q => by cases q⟩
  · show J 43 k = J 8 k
    rw [hJ 43 (by decide), hJ 8 (by decide), c.2.1 (by decide) k hk, c.2.2.1 (by decide) k hk]
  · show J 52 j = J 21 j
    rw [z 52 j (by decide), z 21 j (by decide)]
theorem Cr.v8 (c : Cr sc 66 [] S R I) {J : ab_II} (hJ : ∀ j, j ≠ 44 → J j = I j) : ∀ k, k < 3 → J 8 k = -1 := fun k hk => by rw [hJ 8 (by decide)]; exact c.2.1 (by decide) k hk
end CV7
