/-! A ROW OF FILES -/
section LST
variable {n : Nat} {S : ab_SH} {R : ab_RR} {I : ab_II} {x arr cap : Nat} {l : List Nat}
theorem s_fastRemove (hL : al_L n S R I x arr cap l) (i : Int32) (k : Nat) (hi : i.toInt = k) (hk : k < l.length) : wp 1 40 0 0 MJx4a65c_fastRemove_b59b0 0 [(0, .ref x), (1, .ref arr), (2, .int i)] [] (n, S, R, I) (fun v h => v = none ∧ ∃ R' I', h = (n, S, R', I') ∧ al_L n S R' I' x arr cap (delAt l k) ∧ (∀ j, j ≠ arr → R' j = R j) ∧ (∀ j, j ≠ x → I' j = I j)) := by
  obtain ⟨o0, r1, i2, hlen, hcap, hc, hel, hok⟩ := id hL
  have hA : 10 ≤ cap ∧ ab_ok n S arr 12 ∧ (S arr).2 = cap := by
    rcases hc with h | h
    · omega
    · exact h
  obtain ⟨h10, o1, hz⟩ := hA
  have hxa : arr ≠ x := ab_ok_ne o1 o0 (by decide)
  have ei : i = nI k := tI_N hi
  have i2' : ∀ v, ab_u2 I x 0 v x 2 = nI l.length := fun v => by rw [ab_u2_n _ _ (Or.inr (by decide))]; exact i2
  have e1 : nI l.length - 1 = nI (l.length - 1) := by
    rw [show l.length = (l.length - 1) + 1 by omega]
    exact nI_pred _
  have e2 : i + 1 = nI (k + 1) := by rw [ei]; exact nI_1 k
  have e3 : nI (l.length - 1) - i = nI (l.length - 1 - k) := by rw [ei]; exact pk_sub (by omega)
  have c0 : i.toNatClampNeg = k := by rw [ei]; exact nI_c (by omega)
  have c1 : (nI (k + 1)).toNatClampNeg = k + 1 := nI_c (by omega)
  have c2 : (nI (l.length - 1 - k)).toNatClampNeg = l.length - 1 - k := nI_c (by omega)
  have c3 : (nI (l.length - 1)).toInt = ((l.length - 1 : Nat) : Int) := tI_n (by omega)
  have c4 : (nI (l.length - 1)).toNatClampNeg = l.length - 1 := nI_c (by omega)
  have fin : ∀ (R' : ab_RR) (v : Int32), (∀ j, j < l.length - 1 → R' arr j = if j < k then R arr j else R arr (j + 1)) → (∀ j, j ≠ arr → R' j = R j) →
      wp 1 40 0 0 MJx4a65c_fastRemove_b59b0 34 [(0, .ref x), (1, .ref arr), (2, .int i), (3, .int (nI (l.length - 1)))] [] (n, S, R', ab_u2 I x 0 v) (fun v h => v = none ∧ ∃ R' I', h = (n, S, R', I') ∧ al_L n S R' I' x arr cap (delAt l k) ∧ (∀ j, j ≠ arr → R' j = R j) ∧ (∀ j, j ≠ x → I' j = I j)) := by
    intro R' v g1 g2
    first | refine wp_aload_n (pc := 34) dJx4a65c_fastRemove_b59b0_34 rfl ?_ | refine wp_aload_nN (pc := 34) dJx4a65c_fastRemove_b59b0_34 rfl ?_
    first | refine wp_aload_n (pc := 35) dJx4a65c_fastRemove_b59b0_35 rfl ?_ | refine wp_aload_nN (pc := 35) dJx4a65c_fastRemove_b59b0_35 rfl ?_
    refine wp_iload_n (pc := 36) dJx4a65c_fastRemove_b59b0_36 rfl ?_
    refine wp_dup_x1 (pc := 37) dJx4a65c_fastRemove_b59b0_37 rfl rfl ?_
    refine wp_putI (pc := 38) dJx4a65c_fastRemove_b59b0_38 fl_ArrayList_48 (by assumption) rfl rfl (Or.inl rfl) ?_
    refine wp_null (pc := 41) dJx4a65c_fastRemove_b59b0_41 ?_
    refine wp_aastoreN (pc := 42) dJx4a65c_fastRemove_b59b0_42 o1 (in_I (by omega) (by rw [hz]; omega)) ?_
    refine wp_retv (pc := 43) dJx4a65c_fastRemove_b59b0_43 rfl ?_
    refine ⟨rfl, _, _, rfl, ⟨o0, ?_, ?_, ?_, hcap, Or.inr ⟨h10, o1, hz⟩, fun j y hy => ?_, fun y hy => hok y (delAt_mem hy)⟩, fun j hj => ?_, fun j hj => ?_⟩
    · rw [ab_u2_r _ _ (Ne.symm hxa), g2 x (Ne.symm hxa)]
      exact r1
    · rw [ab_u2_s, delAt_len hk]
    · rw [delAt_len hk]
      omega
    · have hj := (List.getElem?_eq_some_iff.mp hy).1
      rw [delAt_len hk] at hj
      rw [c4, ab_u2_n _ _ (Or.inr (by omega)), g1 j hj]
      rw [delAt_get hk] at hy
      by_cases h1 : j < k
      · rw [if_pos h1] at hy ⊢
        exact hel j y hy
      · rw [if_neg h1] at hy ⊢
        exact hel (j + 1) y hy
    · rw [ab_u2_r _ _ hj]
      exact g2 j hj
    · rw [ab_u2_r _ _ hj, ab_u2_r _ _ hj]
  first | refine wp_aload_n (pc := 0) dJx4a65c_fastRemove_b59b0_0 rfl ?_ | refine wp_aload_nN (pc := 0) dJx4a65c_fastRemove_b59b0_0 rfl ?_
  refine wp_dup (pc := 1) dJx4a65c_fastRemove_b59b0_1 rfl ?_
  refine wp_getI (pc := 2) dJx4a65c_fastRemove_b59b0_2 fl_ArrayList_63 (by assumption) rfl ?_
  refine wp_iconst (pc := 5) (v := 1) dJx4a65c_fastRemove_b59b0_5 (by decide) ?_
  refine wp_iadd (pc := 6) dJx4a65c_fastRemove_b59b0_6 ?_
  refine wp_putI (pc := 7) dJx4a65c_fastRemove_b59b0_7 fl_ArrayList_63 (by assumption) rfl rfl (Or.inl rfl) ?_
  first | refine wp_aload_n (pc := 10) dJx4a65c_fastRemove_b59b0_10 rfl ?_ | refine wp_aload_nN (pc := 10) dJx4a65c_fastRemove_b59b0_10 rfl ?_
  refine wp_getI (pc := 11) dJx4a65c_fastRemove_b59b0_11 fl_ArrayList_48 (by assumption) rfl ?_
  rw [i2']
  refine wp_iconst (pc := 14) (v := 1) dJx4a65c_fastRemove_b59b0_14 (by decide) ?_
  refine wp_isub (pc := 15) dJx4a65c_fastRemove_b59b0_15 ?_
  rw [e1]
  refine wp_dup (pc := 16) dJx4a65c_fastRemove_b59b0_16 rfl ?_
  refine wp_istore_n (pc := 17) dJx4a65c_fastRemove_b59b0_17 (by decide) rfl ?_
  refine wp_iload_n (pc := 18) dJx4a65c_fastRemove_b59b0_18 rfl ?_
  refine wp_icmp_le (pc := 19) (tgt := 34) dJx4a65c_fastRemove_b59b0_19 (by decide) (fun hc => ?_) (fun hc => ?_)
  · have hkk : k = l.length - 1 := by omega
    refine wp_loc (L' := [(0, .ref x), (1, .ref arr), (2, .int i), (3, .int (nI (l.length - 1)))]) ⟨rfl, rfl, rfl, rfl, trivial⟩ ?_
    refine fin _ _ (fun j hj => ?_) (fun j hj => ?_)
    · first
      | (rw [if_pos (by omega)]; done)
      | (simp only [va_up, if_true]
         rw [va_cpy, c0, c1, c2]
         by_cases h1 : j < k
         · rw [if_neg (by omega), if_pos h1]
         · rw [if_pos (by omega), if_neg h1]
           congr 1
           omega)
    · first | rfl | simp [va_up, hj]
  · have hkk : k < l.length - 1 := by omega
    first | refine wp_aload_n (pc := 22) dJx4a65c_fastRemove_b59b0_22 rfl ?_ | refine wp_aload_nN (pc := 22) dJx4a65c_fastRemove_b59b0_22 rfl ?_
    refine wp_iload_n (pc := 23) dJx4a65c_fastRemove_b59b0_23 rfl ?_
    refine wp_iconst (pc := 24) (v := 1) dJx4a65c_fastRemove_b59b0_24 (by decide) ?_
    refine wp_iadd (pc := 25) dJx4a65c_fastRemove_b59b0_25 ?_
    rw [e2]
    first | refine wp_aload_n (pc := 26) dJx4a65c_fastRemove_b59b0_26 rfl ?_ | refine wp_aload_nN (pc := 26) dJx4a65c_fastRemove_b59b0_26 rfl ?_
    refine wp_iload_n (pc := 27) dJx4a65c_fastRemove_b59b0_27 rfl ?_
    refine wp_iload_n (pc := 28) dJx4a65c_fastRemove_b59b0_28 rfl ?_
    refine wp_iload_n (pc := 29) dJx4a65c_fastRemove_b59b0_29 rfl ?_
    refine wp_isub (pc := 30) dJx4a65c_fastRemove_b59b0_30 ?_
    rw [e3]
    refine wp_copy (pc := 31) dJx4a65c_fastRemove_b59b0_31 ml_ArrayList_112 nt_arraycopy sm_arraycopy ini_System o1 o1 (nI_pos (by omega)) (by rw [ei]; exact nI_pos (by omega)) (nI_pos (by omega)) (by rw [c1, c2, hz]; omega) (by rw [c0, c2, hz]; omega) (fun j hj y hy => ?_) (by decide) (Nat.le_of_ble_eq_true rfl) ?_
    · rw [c2] at hj
      rw [c1] at hy
      have := hel (k + 1 + j) _ (List.getElem?_eq_getElem (by omega))
      rw [hy] at this
      cases this
      exact hok _ (List.getElem_mem _)
    refine wp_loc (L' := [(0, .ref x), (1, .ref arr), (2, .int i), (3, .int (nI (l.length - 1)))]) ⟨rfl, rfl, rfl, rfl, trivial⟩ ?_
    refine fin _ _ (fun j hj => ?_) (fun j hj => ?_)
    · first
      | (rw [if_pos (by omega)]; done)
      | (simp only [va_up, if_true]
         rw [va_cpy, c0, c1, c2]
         by_cases h1 : j < k
         · rw [if_neg (by omega), if_pos h1]
         · rw [if_pos (by omega), if_neg h1]
           congr 1
           omega)
    · first | rfl | simp [va_up, hj]
theorem s_remove (hL : al_L n S R I x arr cap l) (i : Int32) (k q : Nat) (hi : i.toInt = k) (hq : l[k]? = some q) : wp 2 63 0 0 MJx4a65c_remove_915e3 0 [(0, .ref x), (1, .int i)] [] (n, S, R, I) (fun v h => v = some (.ref q) ∧ ∃ R' I', h = (n, S, R', I') ∧ al_L n S R' I' x arr cap (delAt l k) ∧ (∀ j, j ≠ arr → R' j = R j) ∧ (∀ j, j ≠ x → I' j = I j)) := by
  obtain ⟨o0, r1, i2, hlen, hcap, hc, hel, hok⟩ := id hL
  have hk : k < l.length := (List.getElem?_eq_some_iff.mp hq).1
  have hA : 10 ≤ cap ∧ ab_ok n S arr 12 ∧ (S arr).2 = cap := by
    rcases hc with h | h
    · omega
    · exact h
  obtain ⟨h10, o1, hz⟩ := hA
  refine wp_iload_n (pc := 0) dJx4a65c_remove_915e3_0 rfl ?_
  first | refine wp_aload_n (pc := 1) dJx4a65c_remove_915e3_1 rfl ?_ | refine wp_aload_nN (pc := 1) dJx4a65c_remove_915e3_1 rfl ?_
  refine wp_getI (pc := 2) dJx4a65c_remove_915e3_2 fl_ArrayList_48 (by assumption) rfl ?_
  refine cv_ArrayList_118 (pc := 5) (s_chk i _ (by omega) (by rw [i2, tI_n (by omega)]; omega)) rfl dJx4a65c_remove_915e3_5 ⟨by decide, by decide, Nat.zero_le _, Nat.zero_le _⟩ (Nat.le_of_ble_eq_true rfl) (fun v h hp => ?_)
  obtain ⟨rfl, rfl⟩ := hp
  refine wp_pop (pc := 8) dJx4a65c_remove_915e3_8 rfl ?_
  first | refine wp_aload_n (pc := 9) dJx4a65c_remove_915e3_9 rfl ?_ | refine wp_aload_nN (pc := 9) dJx4a65c_remove_915e3_9 rfl ?_
  refine wp_getR (pc := 10) dJx4a65c_remove_915e3_10 fl_ArrayList_9 (by assumption) rfl (by assumption) ?_
  first | refine wp_astore_n (pc := 13) dJx4a65c_remove_915e3_13 (by decide) rfl ?_ | refine wp_astore_nN (pc := 13) dJx4a65c_remove_915e3_13 (by decide) rfl ?_
  first | refine wp_aload_n (pc := 14) dJx4a65c_remove_915e3_14 rfl ?_ | refine wp_aload_nN (pc := 14) dJx4a65c_remove_915e3_14 rfl ?_
  refine wp_iload_n (pc := 15) dJx4a65c_remove_915e3_15 rfl ?_
  refine wp_aaload (pc := 16) dJx4a65c_remove_915e3_16 (by first | exact Or.inl (by assumption) | exact Or.inr (by assumption)) (in_I (by omega) (by rw [hz]; omega)) (by rw [tI_c, hi, Int.toNat_natCast]; exact hel k q hq) ?_
  first | refine wp_astore_n (pc := 17) dJx4a65c_remove_915e3_17 (by decide) rfl ?_ | refine wp_astore_nN (pc := 17) dJx4a65c_remove_915e3_17 (by decide) rfl ?_
  first | refine wp_aload_n (pc := 18) dJx4a65c_remove_915e3_18 rfl ?_ | refine wp_aload_nN (pc := 18) dJx4a65c_remove_915e3_18 rfl ?_
  first | refine wp_aload_n (pc := 19) dJx4a65c_remove_915e3_19 rfl ?_ | refine wp_aload_nN (pc := 19) dJx4a65c_remove_915e3_19 rfl ?_
  refine wp_iload_n (pc := 20) dJx4a65c_remove_915e3_20 rfl ?_
  refine cv_ArrayList_144 (pc := 21) (s_fastRemove hL i k hi hk) rfl dJx4a65c_remove_915e3_21 (by assumption) ⟨by decide, by decide, Nat.zero_le _, Nat.zero_le _⟩ (Nat.le_of_ble_eq_true rfl) (fun v h hp => ?_)
  obtain ⟨rfl, R', I', rfl, g1, g2, g3⟩ := hp
  first | refine wp_aload_n (pc := 24) dJx4a65c_remove_915e3_24 rfl ?_ | refine wp_aload_nN (pc := 24) dJx4a65c_remove_915e3_24 rfl ?_
  first | refine wp_reta (pc := 25) dJx4a65c_remove_915e3_25 trivial ?_ | refine wp_retn (pc := 25) dJx4a65c_remove_915e3_25 trivial ?_
  exact ⟨rfl, R', I', rfl, g1, g2, g3⟩
theorem s_clear_loop (o0 : ab_ok n S x 0) (hc : cap = 0 ∧ arr = 0 ∨ 10 ≤ cap ∧ ab_ok n S arr 12 ∧ (S arr).2 = cap) (hcap : cap ≤ 10000) (len : Nat) (hlen : len ≤ cap) (I : ab_II) (post : ab_Po) (R0 : ab_RR) (hpost : ∀ R', (∀ j, j ≠ arr → R' j = R0 j) → post none (n, S, R', I)) :
    ∀ (d t : Nat) (y : Int32) (R : ab_RR), len = t + d → y = nI t → (∀ j, j ≠ arr → R j = R0 j) → wp 0 0 0 0 MJx4a65c_clear_da8c8 27 [(0, .ref x), (1, .ref arr), (2, .int (nI len)), (3, .int y)] [] (n, S, R, I) post := by
  have e0 : (nI len).toInt = len := tI_n (by omega)
  intro d
  induction d with
  | zero =>
    intro t y R ht hy hR
    have ey : y.toInt = t := by rw [hy, tI_n (by omega)]
    refine wp_iload_n (pc := 27) dJx4a65c_clear_da8c8_27 rfl ?_
    refine wp_iload_n (pc := 28) dJx4a65c_clear_da8c8_28 rfl ?_
    refine wp_icmp_ge (pc := 29) (tgt := 42) dJx4a65c_clear_da8c8_29 (by decide) (fun hc => ?_) (fun hc => ?_)
    · skip
      refine wp_retv (pc := 42) dJx4a65c_clear_da8c8_42 rfl ?_
      exact hpost R hR
    · omega
  | succ d ih =>
    intro t y R ht hy hR
    have ey : y.toInt = t := by rw [hy, tI_n (by omega)]
    have hA : 10 ≤ cap ∧ ab_ok n S arr 12 ∧ (S arr).2 = cap := by
      rcases hc with h | h
      · omega
      · exact h
    obtain ⟨h10, o1, hz⟩ := hA
    refine wp_iload_n (pc := 27) dJx4a65c_clear_da8c8_27 rfl ?_
    refine wp_iload_n (pc := 28) dJx4a65c_clear_da8c8_28 rfl ?_
    refine wp_icmp_ge (pc := 29) (tgt := 42) dJx4a65c_clear_da8c8_29 (by decide) (fun hc => ?_) (fun hc => ?_)
    · omega
    · skip
      first | refine wp_aload_n (pc := 32) dJx4a65c_clear_da8c8_32 rfl ?_ | refine wp_aload_nN (pc := 32) dJx4a65c_clear_da8c8_32 rfl ?_
      refine wp_iload_n (pc := 33) dJx4a65c_clear_da8c8_33 rfl ?_
      refine wp_null (pc := 34) dJx4a65c_clear_da8c8_34 ?_
      refine wp_aastoreN (pc := 35) dJx4a65c_clear_da8c8_35 o1 (in_I (by omega) (by rw [hz]; omega)) ?_
      refine wp_iinc (pc := 36) dJx4a65c_clear_da8c8_36 rfl (by decide) rfl ?_
      refine wp_goto (pc := 39) (tgt := 27) dJx4a65c_clear_da8c8_39 (by decide) ?_
      refine wp_loc (L' := [(0, .ref x), (1, .ref arr), (2, .int (nI len)), (3, .int (y + Int32.ofInt 1))]) ⟨rfl, rfl, rfl, rfl, trivial⟩ ?_
      refine ih (t + 1) _ _ (by omega) (by rw [hy]; exact nI_i1 t) (fun j hj => ?_)
      rw [ab_u2_r _ _ hj]
      exact hR j hj
theorem s_clear (hL : al_L n S R I x arr cap l) : wp 0 0 0 0 MJx4a65c_clear_da8c8 0 [(0, .ref x)] [] (n, S, R, I) (fun v h => v = none ∧ ∃ R' I', h = (n, S, R', I') ∧ al_L n S R' I' x arr cap [] ∧ (∀ j, j ≠ arr → R' j = R j) ∧ (∀ j, j ≠ x → I' j = I j)) := by
  obtain ⟨o0, r1, i2, hlen, hcap, hc, hel, hok⟩ := id hL
  have i2' : ∀ v, ab_u2 I x 0 v x 2 = nI l.length := fun v => by rw [ab_u2_n _ _ (Or.inr (by decide))]; exact i2
  have hxa : x ≠ arr := by
    rcases hc with h | h
    · have := o0.1; omega
    · exact ab_ok_ne o0 h.2.1 (by decide)
  first | refine wp_aload_n (pc := 0) dJx4a65c_clear_da8c8_0 rfl ?_ | refine wp_aload_nN (pc := 0) dJx4a65c_clear_da8c8_0 rfl ?_
  refine wp_dup (pc := 1) dJx4a65c_clear_da8c8_1 rfl ?_
  refine wp_getI (pc := 2) dJx4a65c_clear_da8c8_2 fl_ArrayList_63 (by assumption) rfl ?_
  refine wp_iconst (pc := 5) (v := 1) dJx4a65c_clear_da8c8_5 (by decide) ?_
  refine wp_iadd (pc := 6) dJx4a65c_clear_da8c8_6 ?_
  refine wp_putI (pc := 7) dJx4a65c_clear_da8c8_7 fl_ArrayList_63 (by assumption) rfl rfl (Or.inl rfl) ?_
  first | refine wp_aload_n (pc := 10) dJx4a65c_clear_da8c8_10 rfl ?_ | refine wp_aload_nN (pc := 10) dJx4a65c_clear_da8c8_10 rfl ?_
  refine wp_getR (pc := 11) dJx4a65c_clear_da8c8_11 fl_ArrayList_9 (by assumption) rfl (by assumption) ?_
  first | refine wp_astore_n (pc := 14) dJx4a65c_clear_da8c8_14 (by decide) rfl ?_ | refine wp_astore_nN (pc := 14) dJx4a65c_clear_da8c8_14 (by decide) rfl ?_
  first | refine wp_aload_n (pc := 15) dJx4a65c_clear_da8c8_15 rfl ?_ | refine wp_aload_nN (pc := 15) dJx4a65c_clear_da8c8_15 rfl ?_
  refine wp_getI (pc := 16) dJx4a65c_clear_da8c8_16 fl_ArrayList_48 (by assumption) rfl ?_
  rw [i2']
  refine wp_istore_n (pc := 19) dJx4a65c_clear_da8c8_19 (by decide) rfl ?_
  first | refine wp_aload_n (pc := 20) dJx4a65c_clear_da8c8_20 rfl ?_ | refine wp_aload_nN (pc := 20) dJx4a65c_clear_da8c8_20 rfl ?_
  refine wp_iconst (pc := 21) (v := 0) dJx4a65c_clear_da8c8_21 (by decide) ?_
  refine wp_dup_x1 (pc := 22) dJx4a65c_clear_da8c8_22 rfl rfl ?_
  refine wp_putI (pc := 23) dJx4a65c_clear_da8c8_23 fl_ArrayList_48 (by assumption) rfl rfl (Or.inl rfl) ?_
  refine wp_istore_n (pc := 26) dJx4a65c_clear_da8c8_26 (by decide) rfl ?_
  refine wp_loc (L' := [(0, .ref x), (1, .ref arr), (2, .int (nI l.length)), (3, .int 0)]) ⟨rfl, rfl, rfl, rfl, trivial⟩ ?_
  refine s_clear_loop o0 hc hcap l.length hlen _ _ R (fun R' hR => ⟨rfl, R', _, rfl, ⟨o0, by rw [hR x hxa]; exact r1, by rw [ab_u2_s]; rfl, Nat.zero_le _, hcap, hc, fun i q hq => by simp at hq, fun q hq => by simp at hq⟩, hR, fun j hj => by rw [ab_u2_r _ _ hj, ab_u2_r _ _ hj]⟩) l.length 0 0 R (by omega) rfl (fun _ _ => rfl)
variable {r : Nat}
/-- a row of files: its list -/
def fr_S (n : Nat) (S : ab_SH) (R : ab_RR) (r x : Nat) : Prop := ab_ok n S r 2 ∧ R r 0 = some x
theorem s_X1_size (hF : fr_S n S R r x) (hL : al_L n S R I x arr cap l) : wp 1 20 0 0 MX1_size 0 [(0, .ref r)] [] (n, S, R, I) (fun v h => h = (n, S, R, I) ∧ v = some (.int (nI l.length))) := by
  obtain ⟨o, q⟩ := hF
  have o0 := hL.1
  first | refine wp_aload_n (pc := 0) dX1_size_0 rfl ?_ | refine wp_aload_nN (pc := 0) dX1_size_0 rfl ?_
  refine wp_getR (pc := 1) dX1_size_1 fl_FileRow_12 (by assumption) rfl (by assumption) ?_
  refine cv_FileRow_18 (pc := 4) (s_size hL) rfl dX1_size_4 (by assumption) ⟨by decide, by decide, Nat.zero_le _, Nat.zero_le _⟩ (Nat.le_of_ble_eq_true rfl) (fun v h hp => ?_)
  obtain ⟨rfl, rfl⟩ := hp
  refine wp_ret (pc := 7) dX1_size_7 rfl (by first | trivial | exact Or.inl rfl | exact Or.inr rfl | assumption) ?_
  exact ⟨rfl, rfl⟩
def atV (l : List Nat) (y : Int32) : Value := if 0 ≤ y.toInt ∧ y.toInt < l.length then .ref (l.getD y.toInt.toNat 0) else .null
theorem s_X1_at (hF : fr_S n S R r x) (hL : al_L n S R I x arr cap l) (y : Int32) : wp 3 64 0 0 MX1_at 0 [(0, .ref r), (1, .int y)] [] (n, S, R, I) (fun v h => h = (n, S, R, I) ∧ v = some (atV l y)) := by
  obtain ⟨o, q⟩ := hF
  have o0 := hL.1
  have hlen := hL.2.2.2.1
  have hcap := hL.2.2.2.2.1
  have e0 : (nI l.length).toInt = l.length := tI_n (by omega)
  refine wp_iload_n (pc := 0) dX1_at_0 rfl ?_
  refine wp_if_lt (pc := 1) (tgt := 29) dX1_at_1 (by decide) (fun hc => ?_) (fun hc => ?_)
  · skip
    refine wp_null (pc := 29) dX1_at_29 ?_
    first | refine wp_reta (pc := 30) dX1_at_30 trivial ?_ | refine wp_retn (pc := 30) dX1_at_30 trivial ?_
    first | exact ⟨rfl, by rw [atV, if_neg (by omega)]⟩ | exact ⟨rfl, by rw [atV, if_pos (by omega), hk, Int.toNat_natCast]⟩
  · skip
    refine wp_iload_n (pc := 4) dX1_at_4 rfl ?_
    first | refine wp_aload_n (pc := 5) dX1_at_5 rfl ?_ | refine wp_aload_nN (pc := 5) dX1_at_5 rfl ?_
    refine wp_getR (pc := 6) dX1_at_6 fl_FileRow_12 (by assumption) rfl (by assumption) ?_
    refine cv_FileRow_18 (pc := 9) (s_size hL) rfl dX1_at_9 (by assumption) ⟨by decide, by decide, Nat.zero_le _, Nat.zero_le _⟩ (Nat.le_of_ble_eq_true rfl) (fun v h hp => ?_)
    obtain ⟨rfl, rfl⟩ := hp
    refine wp_icmp_ge (pc := 12) (tgt := 29) dX1_at_12 (by decide) (fun hc => ?_) (fun hc => ?_)
    · skip
      refine wp_null (pc := 29) dX1_at_29 ?_
      first | refine wp_reta (pc := 30) dX1_at_30 trivial ?_ | refine wp_retn (pc := 30) dX1_at_30 trivial ?_
      first | exact ⟨rfl, by rw [atV, if_neg (by omega)]⟩ | exact ⟨rfl, by rw [atV, if_pos (by omega), hk, Int.toNat_natCast]⟩
    · obtain ⟨k, hk⟩ : ∃ k : Nat, y.toInt = k := ⟨y.toInt.toNat, by omega⟩
      have hg : l[k]? = some (l.getD k 0) := by rw [List.getD_eq_getElem?_getD, List.getElem?_eq_getElem (by omega)]; rfl
      have ho := hL.2.2.2.2.2.2.2 _ (List.mem_of_getElem? hg)
      first | refine wp_aload_n (pc := 15) dX1_at_15 rfl ?_ | refine wp_aload_nN (pc := 15) dX1_at_15 rfl ?_
      refine wp_getR (pc := 16) dX1_at_16 fl_FileRow_12 (by assumption) rfl (by assumption) ?_
      refine wp_iload_n (pc := 19) dX1_at_19 rfl ?_
      refine cv_FileRow_22 (pc := 20) (s_get hL y k _ hk hg) rfl dX1_at_20 (by assumption) ⟨by decide, by decide, Nat.zero_le _, Nat.zero_le _⟩ (Nat.le_of_ble_eq_true rfl) (fun v h hp => ?_)
      obtain ⟨rfl, rfl⟩ := hp
      refine wp_cast (pc := 23) dX1_at_23 ab_k6 cl_FileRow_26 (by assumption) ?_
      refine wp_goto (pc := 26) (tgt := 30) dX1_at_26 (by decide) ?_
      first | refine wp_reta (pc := 30) dX1_at_30 trivial ?_ | refine wp_retn (pc := 30) dX1_at_30 trivial ?_
      first | exact ⟨rfl, by rw [atV, if_neg (by omega)]⟩ | exact ⟨rfl, by rw [atV, if_pos (by omega), hk, Int.toNat_natCast]⟩
theorem s_X1_insert (hF : fr_S n S R r x) (hL : al_L n S R I x arr cap l) (h6 : cap ≤ 6000) (i : Int32) (k q : Nat) (hi : i.toInt = k) (hk : k ≤ l.length) (hq : ab_ok n S q 6) : wp 6 151 (al_c l.length cap) (al_s l.length cap) MX1_insert 0 [(0, .ref r), (1, .int i), (2, .ref q)] [] (n, S, R, I) (fun v h => v = none ∧ al_post n S R I x arr cap l (insAt l k q) h) := by
  obtain ⟨o, r1⟩ := hF
  have o0 := hL.1
  have hlen := hL.2.2.2.1
  have hcap := hL.2.2.2.2.1
  have e0 : (nI l.length).toInt = l.length := tI_n (by omega)
  first | refine wp_aload_n (pc := 0) dX1_insert_0 rfl ?_ | refine wp_aload_nN (pc := 0) dX1_insert_0 rfl ?_
  refine wp_ifnull_r (pc := 1) dX1_insert_1 ?_
  refine wp_iload_n (pc := 4) dX1_insert_4 rfl ?_
  refine wp_if_lt (pc := 5) (tgt := 28) dX1_insert_5 (by decide) (fun hc => ?_) (fun hc => ?_)
  · omega
  · skip
    refine wp_iload_n (pc := 8) dX1_insert_8 rfl ?_
    first | refine wp_aload_n (pc := 9) dX1_insert_9 rfl ?_ | refine wp_aload_nN (pc := 9) dX1_insert_9 rfl ?_
    refine wp_getR (pc := 10) dX1_insert_10 fl_FileRow_12 (by assumption) rfl (by assumption) ?_
    refine cv_FileRow_18 (pc := 13) (s_size hL) rfl dX1_insert_13 (by assumption) ⟨by decide, by decide, Nat.zero_le _, Nat.zero_le _⟩ (Nat.le_of_ble_eq_true rfl) (fun v h hp => ?_)
    obtain ⟨rfl, rfl⟩ := hp
    refine wp_icmp_gt (pc := 16) (tgt := 28) dX1_insert_16 (by decide) (fun hc => ?_) (fun hc => ?_)
    · omega
    · skip
      first | refine wp_aload_n (pc := 19) dX1_insert_19 rfl ?_ | refine wp_aload_nN (pc := 19) dX1_insert_19 rfl ?_
      refine wp_getR (pc := 20) dX1_insert_20 fl_FileRow_12 (by assumption) rfl (by assumption) ?_
      refine wp_iload_n (pc := 23) dX1_insert_23 rfl ?_
      first | refine wp_aload_n (pc := 24) dX1_insert_24 rfl ?_ | refine wp_aload_nN (pc := 24) dX1_insert_24 rfl ?_
      refine cv_FileRow_32 (pc := 25) (s_add hL h6 i k q hi hk hq) rfl dX1_insert_25 (by assumption) ⟨by decide, by decide, by omega, by omega⟩ (Nat.le_of_ble_eq_true rfl) (fun v h hp => ?_)
      obtain ⟨rfl, hp⟩ := hp
      refine wp_retv (pc := 28) dX1_insert_28 rfl ?_
      exact ⟨rfl, hp⟩
theorem s_X1_add (hF : fr_S n S R r x) (hL : al_L n S R I x arr cap l) (h6 : cap ≤ 6000) (q : Nat) (hq : ab_ok n S q 6) : wp 7 173 (al_c l.length cap) (al_s l.length cap) MX1_add 0 [(0, .ref r), (1, .ref q)] [] (n, S, R, I) (fun v h => v = none ∧ al_post n S R I x arr cap l (l ++ [q]) h) := by
  obtain ⟨o, r1⟩ := id hF
  have o0 := hL.1
  have hlen := hL.2.2.2.1
  have hcap := hL.2.2.2.2.1
  have e0 : (nI l.length).toInt = l.length := tI_n (by omega)
  have e1 : insAt l l.length q = l ++ [q] := by simp [insAt]
  first | refine wp_aload_n (pc := 0) dX1_add_0 rfl ?_ | refine wp_aload_nN (pc := 0) dX1_add_0 rfl ?_
  first | refine wp_aload_n (pc := 1) dX1_add_1 rfl ?_ | refine wp_aload_nN (pc := 1) dX1_add_1 rfl ?_
  refine wp_getR (pc := 2) dX1_add_2 fl_FileRow_12 (by assumption) rfl (by assumption) ?_
  refine cv_FileRow_18 (pc := 5) (s_size hL) rfl dX1_add_5 (by assumption) ⟨by decide, by decide, Nat.zero_le _, Nat.zero_le _⟩ (Nat.le_of_ble_eq_true rfl) (fun v h hp => ?_)
  obtain ⟨rfl, rfl⟩ := hp
  first | refine wp_aload_n (pc := 8) dX1_add_8 rfl ?_ | refine wp_aload_nN (pc := 8) dX1_add_8 rfl ?_
  refine cv_FileRow_28 (pc := 9) (s_X1_insert hF hL h6 (nI l.length) l.length q e0 (Nat.le_refl _) hq) rfl dX1_add_9 (by assumption) ⟨by decide, by decide, by omega, by omega⟩ (Nat.le_of_ble_eq_true rfl) (fun v h hp => ?_)
  obtain ⟨rfl, hp⟩ := hp
  refine wp_retv (pc := 12) dX1_add_12 rfl ?_
  rw [e1] at hp; exact ⟨rfl, hp⟩
theorem s_X1_takeOut (hF : fr_S n S R r x) (hL : al_L n S R I x arr cap l) (i : Int32) (k q : Nat) (hi : i.toInt = k) (hq : l[k]? = some q) : wp 3 86 0 0 MX1_takeOut 0 [(0, .ref r), (1, .int i)] [] (n, S, R, I) (fun v h => v = some (.ref q) ∧ ∃ R' I', h = (n, S, R', I') ∧ al_L n S R' I' x arr cap (delAt l k) ∧ (∀ j, j ≠ arr → R' j = R j) ∧ (∀ j, j ≠ x → I' j = I j)) := by
  obtain ⟨o, r1⟩ := hF
  have o0 := hL.1
  have hlen := hL.2.2.2.1
  have hcap := hL.2.2.2.2.1
  have hk : k < l.length := (List.getElem?_eq_some_iff.mp hq).1
  have e0 : (nI l.length).toInt = l.length := tI_n (by omega)
  have ho := hL.2.2.2.2.2.2.2 _ (List.mem_of_getElem? hq)
  refine wp_iload_n (pc := 0) dX1_takeOut_0 rfl ?_
  refine wp_if_lt (pc := 1) (tgt := 29) dX1_takeOut_1 (by decide) (fun hc => ?_) (fun hc => ?_)
  · omega
  · skip
    refine wp_iload_n (pc := 4) dX1_takeOut_4 rfl ?_
    first | refine wp_aload_n (pc := 5) dX1_takeOut_5 rfl ?_ | refine wp_aload_nN (pc := 5) dX1_takeOut_5 rfl ?_
    refine wp_getR (pc := 6) dX1_takeOut_6 fl_FileRow_12 (by assumption) rfl (by assumption) ?_
    refine cv_FileRow_18 (pc := 9) (s_size hL) rfl dX1_takeOut_9 (by assumption) ⟨by decide, by decide, Nat.zero_le _, Nat.zero_le _⟩ (Nat.le_of_ble_eq_true rfl) (fun v h hp => ?_)
    obtain ⟨rfl, rfl⟩ := hp
    refine wp_icmp_ge (pc := 12) (tgt := 29) dX1_takeOut_12 (by decide) (fun hc => ?_) (fun hc => ?_)
    · omega
    · skip
      first | refine wp_aload_n (pc := 15) dX1_takeOut_15 rfl ?_ | refine wp_aload_nN (pc := 15) dX1_takeOut_15 rfl ?_
      refine wp_getR (pc := 16) dX1_takeOut_16 fl_FileRow_12 (by assumption) rfl (by assumption) ?_
      refine wp_iload_n (pc := 19) dX1_takeOut_19 rfl ?_
      refine cv_FileRow_36 (pc := 20) (s_remove hL i k q hi hq) rfl dX1_takeOut_20 (by assumption) ⟨by decide, by decide, Nat.zero_le _, Nat.zero_le _⟩ (Nat.le_of_ble_eq_true rfl) (fun v h hp => ?_)
      obtain ⟨rfl, R', I', rfl, g1, g2, g3⟩ := hp
      refine wp_cast (pc := 23) dX1_takeOut_23 ab_k6 cl_FileRow_26 (by assumption) ?_
      refine wp_goto (pc := 26) (tgt := 30) dX1_takeOut_26 (by decide) ?_
      first | refine wp_reta (pc := 30) dX1_takeOut_30 trivial ?_ | refine wp_retn (pc := 30) dX1_takeOut_30 trivial ?_
      exact ⟨rfl, R', I', rfl, g1, g2, g3⟩
theorem s_X1_takeOutN (hF : fr_S n S R r x) (hL : al_L n S R I x arr cap l) (i : Int32) (hi : i.toInt < 0 ∨ (l.length : Int) ≤ i.toInt) : wp 3 86 0 0 MX1_takeOut 0 [(0, .ref r), (1, .int i)] [] (n, S, R, I) (fun v h => v = some .null ∧ h = (n, S, R, I)) := by
  obtain ⟨o, r1⟩ := hF
  have o0 := hL.1
  have hlen := hL.2.2.2.1
  have hcap := hL.2.2.2.2.1
  have e0 : (nI l.length).toInt = l.length := tI_n (by omega)
  refine wp_iload_n (pc := 0) dX1_takeOut_0 rfl ?_
  refine wp_if_lt (pc := 1) (tgt := 29) dX1_takeOut_1 (by decide) (fun hc => ?_) (fun hc => ?_)
  · skip
    refine wp_null (pc := 29) dX1_takeOut_29 ?_
    first | refine wp_reta (pc := 30) dX1_takeOut_30 trivial ?_ | refine wp_retn (pc := 30) dX1_takeOut_30 trivial ?_
    exact ⟨rfl, rfl⟩
  · skip
    refine wp_iload_n (pc := 4) dX1_takeOut_4 rfl ?_
    first | refine wp_aload_n (pc := 5) dX1_takeOut_5 rfl ?_ | refine wp_aload_nN (pc := 5) dX1_takeOut_5 rfl ?_
    refine wp_getR (pc := 6) dX1_takeOut_6 fl_FileRow_12 (by assumption) rfl (by assumption) ?_
    refine cv_FileRow_18 (pc := 9) (s_size hL) rfl dX1_takeOut_9 (by assumption) ⟨by decide, by decide, Nat.zero_le _, Nat.zero_le _⟩ (Nat.le_of_ble_eq_true rfl) (fun v h hp => ?_)
    obtain ⟨rfl, rfl⟩ := hp
    refine wp_icmp_ge (pc := 12) (tgt := 29) dX1_takeOut_12 (by decide) (fun hc => ?_) (fun hc => ?_)
    · skip
      refine wp_null (pc := 29) dX1_takeOut_29 ?_
      first | refine wp_reta (pc := 30) dX1_takeOut_30 trivial ?_ | refine wp_retn (pc := 30) dX1_takeOut_30 trivial ?_
      exact ⟨rfl, rfl⟩
    · omega
theorem s_X1_empty (hF : fr_S n S R r x) (hL : al_L n S R I x arr cap l) : wp 1 23 0 0 MX1_empty 0 [(0, .ref r)] [] (n, S, R, I) (fun v h => v = none ∧ ∃ R' I', h = (n, S, R', I') ∧ al_L n S R' I' x arr cap [] ∧ (∀ j, j ≠ arr → R' j = R j) ∧ (∀ j, j ≠ x → I' j = I j)) := by
  obtain ⟨o, r1⟩ := hF
  have o0 := hL.1
  first | refine wp_aload_n (pc := 0) dX1_empty_0 rfl ?_ | refine wp_aload_nN (pc := 0) dX1_empty_0 rfl ?_
  refine wp_getR (pc := 1) dX1_empty_1 fl_FileRow_12 (by assumption) rfl (by assumption) ?_
  refine cv_FileRow_39 (pc := 4) (s_clear hL) rfl dX1_empty_4 (by assumption) ⟨by decide, by decide, Nat.zero_le _, Nat.zero_le _⟩ (Nat.le_of_ble_eq_true rfl) (fun v h hp => ?_)
  obtain ⟨rfl, R', I', rfl, g1, g2, g3⟩ := hp
  refine wp_retv (pc := 7) dX1_empty_7 rfl ?_
  exact ⟨rfl, R', I', rfl, g1, g2, g3⟩
end LST
