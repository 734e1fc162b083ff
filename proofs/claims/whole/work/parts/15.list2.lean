/-! ArrayList: add, remove, clear; a row of files -/
def insAt (l : List Nat) (i q : Nat) : List Nat := l.take i ++ q :: l.drop i
def delAt (l : List Nat) (i : Nat) : List Nat := l.take i ++ l.drop (i + 1)
theorem insAt_len {l : List Nat} {i q : Nat} (h : i ≤ l.length) : (insAt l i q).length = l.length + 1 := by simp [insAt]; omega
theorem delAt_len {l : List Nat} {i : Nat} (h : i < l.length) : (delAt l i).length = l.length - 1 := by simp [delAt]; omega
theorem insAt_mem {l : List Nat} {i q y : Nat} (h : y ∈ insAt l i q) : y = q ∨ y ∈ l := by
  rcases List.mem_append.mp h with h | h
  · exact Or.inr (List.mem_of_mem_take h)
  · rcases List.mem_cons.mp h with h | h
    · exact Or.inl h
    · exact Or.inr (List.mem_of_mem_drop h)
theorem delAt_mem {l : List Nat} {i y : Nat} (h : y ∈ delAt l i) : y ∈ l := by
  rcases List.mem_append.mp h with h | h
  · exact List.mem_of_mem_take h
  · exact List.mem_of_mem_drop h
theorem insAt_get {l : List Nat} {i q j : Nat} (h : i ≤ l.length) : (insAt l i q)[j]? = if j < i then l[j]? else if j = i then some q else l[j - 1]? := by
  unfold insAt
  by_cases h1 : j < i
  · rw [if_pos h1, List.getElem?_append_left (by simp; omega), List.getElem?_take_of_lt h1]
  · rw [if_neg h1, List.getElem?_append_right (by simp; omega)]
    have hl : (l.take i).length = i := by simp; omega
    rw [hl]
    by_cases h2 : j = i
    · rw [if_pos h2, h2, Nat.sub_self]
      rfl
    · rw [if_neg h2, show j - i = (j - i - 1) + 1 by omega, List.getElem?_cons_succ, List.getElem?_drop]
      congr 1
      omega
theorem delAt_get {l : List Nat} {i j : Nat} (h : i < l.length) : (delAt l i)[j]? = if j < i then l[j]? else l[j + 1]? := by
  unfold delAt
  by_cases h1 : j < i
  · rw [if_pos h1, List.getElem?_append_left (by simp; omega), List.getElem?_take_of_lt h1]
  · rw [if_neg h1, List.getElem?_append_right (by simp; omega)]
    have hl : (l.take i).length = i := by simp; omega
    rw [hl, List.getElem?_drop]
    congr 1
    omega
/-- more cells, the old ones' kinds, and all references but those of lists -/
def ab_ex (n : Nat) (S : ab_SH) (R : ab_RR) (n' : Nat) (S' : ab_SH) (R' : ab_RR) : Prop := n ≤ n' ∧ (∀ j, j < n → S' j = S j) ∧ ∀ j, 3 ≤ j → j < n → (S j).1 ≠ 0 → (S j).1 ≠ 12 → R' j = R j
theorem ab_ex.rf {n : Nat} {S : ab_SH} {R : ab_RR} : ab_ex n S R n S R := ⟨Nat.le_refl _, fun _ _ => rfl, fun _ _ _ _ _ => rfl⟩
theorem ab_ex.tr {n n' n'' : Nat} {S S' S'' : ab_SH} {R R' R'' : ab_RR} (h : ab_ex n S R n' S' R') (h' : ab_ex n' S' R' n'' S'' R'') : ab_ex n S R n'' S'' R'' := by
  obtain ⟨a1, a2, a3⟩ := h
  obtain ⟨b1, b2, b3⟩ := h'
  refine ⟨Nat.le_trans a1 b1, fun j hj => (b2 j (by omega)).trans (a2 j hj), fun j h3 hj h0 h12 => ?_⟩
  rw [b3 j h3 (by omega) (by rw [a2 j hj]; exact h0) (by rw [a2 j hj]; exact h12), a3 j h3 hj h0 h12]
theorem ab_ex.ok {n n' : Nat} {S S' : ab_SH} {R R' : ab_RR} {q ci : Nat} (h : ab_ex n S R n' S' R') (ho : ab_ok n S q ci) : ab_ok n' S' q ci := ⟨ho.1, Nat.lt_of_lt_of_le ho.2.1 h.1, by rw [h.2.1 q ho.2.1]; exact ho.2.2⟩
section LST
variable {n : Nat} {S : ab_SH} {R : ab_RR} {I : ab_II} {x arr cap : Nat} {l : List Nat}
theorem s_add_tail (o0 : ab_ok n S x 0) (r1 : R x 1 = some arr) (i2 : I x 2 = nI l.length) (hlen : l.length < cap) (h10 : 10 ≤ cap) (hcap : cap ≤ 10000) (hA : ab_ok n S arr 12) (hz : (S arr).2 = cap) (hel : ∀ i q, l[i]? = some q → R arr i = some q) (hok : ∀ q ∈ l, ab_ok n S q 6) (i : Int32) (k q : Nat) (hi : i.toInt = k) (hk : k ≤ l.length) (hq : ab_ok n S q 6) (post : ab_Po)
    (hpost : ∀ R' I', al_L n S R' I' x arr cap (insAt l k q) → (∀ j, j ≠ arr → R' j = R j) → (∀ j, j ≠ x → I' j = I j) → post none (n, S, R', I')) :
    wp 5 127 0 0 MJx4a65c_add_7a177 38 [(0, .ref x), (1, .int i), (2, .ref q), (3, .int (nI l.length)), (4, .ref arr)] [] (n, S, R, I) post := by
  have ei : i = nI k := tI_N hi
  have e1 : i + 1 = nI (k + 1) := by rw [ei]; exact nI_1 k
  have e2 : nI l.length - i = nI (l.length - k) := by rw [ei]; exact pk_sub hk
  have c0 : i.toNatClampNeg = k := by rw [ei]; exact nI_c (by omega)
  have c1 : (nI (k + 1)).toNatClampNeg = k + 1 := nI_c (by omega)
  have c2 : (nI (l.length - k)).toNatClampNeg = l.length - k := nI_c (by omega)
  have hxa : arr ≠ x := ab_ok_ne hA o0 (by decide)
  first | refine wp_aload (pc := 38) dJx4a65c_add_7a177_38 rfl ?_ | refine wp_aloadN (pc := 38) dJx4a65c_add_7a177_38 rfl ?_
  refine wp_iload_n (pc := 40) dJx4a65c_add_7a177_40 rfl ?_
  first | refine wp_aload (pc := 41) dJx4a65c_add_7a177_41 rfl ?_ | refine wp_aloadN (pc := 41) dJx4a65c_add_7a177_41 rfl ?_
  refine wp_iload_n (pc := 43) dJx4a65c_add_7a177_43 rfl ?_
  refine wp_iconst (pc := 44) (v := 1) dJx4a65c_add_7a177_44 (by decide) ?_
  refine wp_iadd (pc := 45) dJx4a65c_add_7a177_45 ?_
  rw [e1]
  refine wp_iload_n (pc := 46) dJx4a65c_add_7a177_46 rfl ?_
  refine wp_iload_n (pc := 47) dJx4a65c_add_7a177_47 rfl ?_
  refine wp_isub (pc := 48) dJx4a65c_add_7a177_48 ?_
  rw [e2]
  refine wp_copy (pc := 49) dJx4a65c_add_7a177_49 ml_ArrayList_112 nt_arraycopy sm_arraycopy ini_System hA hA (by rw [ei]; exact nI_pos (by omega)) (nI_pos (by omega)) (nI_pos (by omega)) (by rw [c0, c2, hz]; omega) (by rw [c1, c2, hz]; omega) (fun j hj y hy => ?_) (by decide) (Nat.le_of_ble_eq_true rfl) ?_
  · rw [c2] at hj
    rw [c0] at hy
    have := hel (k + j) _ (List.getElem?_eq_getElem (by omega))
    rw [hy] at this
    cases this
    exact hok _ (List.getElem_mem _)
  first | refine wp_aload (pc := 52) dJx4a65c_add_7a177_52 rfl ?_ | refine wp_aloadN (pc := 52) dJx4a65c_add_7a177_52 rfl ?_
  refine wp_iload_n (pc := 54) dJx4a65c_add_7a177_54 rfl ?_
  first | refine wp_aload_n (pc := 55) dJx4a65c_add_7a177_55 rfl ?_ | refine wp_aload_nN (pc := 55) dJx4a65c_add_7a177_55 rfl ?_
  refine wp_aastoreO (pc := 56) dJx4a65c_add_7a177_56 hA (in_I (by omega) (by rw [hz]; omega)) hq ?_
  first | refine wp_aload_n (pc := 57) dJx4a65c_add_7a177_57 rfl ?_ | refine wp_aload_nN (pc := 57) dJx4a65c_add_7a177_57 rfl ?_
  refine wp_iload_n (pc := 58) dJx4a65c_add_7a177_58 rfl ?_
  refine wp_iconst (pc := 59) (v := 1) dJx4a65c_add_7a177_59 (by decide) ?_
  refine wp_iadd (pc := 60) dJx4a65c_add_7a177_60 ?_
  refine wp_putI (pc := 61) dJx4a65c_add_7a177_61 fl_ArrayList_48 (by assumption) rfl rfl (Or.inl rfl) ?_
  refine wp_retv (pc := 64) dJx4a65c_add_7a177_64 rfl ?_
  refine hpost _ _ ⟨o0, ?_, ?_, ?_, hcap, Or.inr ⟨h10, hA, hz⟩, fun j y hy => ?_, fun y hy => ?_⟩ (fun j hj => ?_) (fun j hj => ab_u2_r _ _ hj)
  · rw [ab_u2_r _ _ (Ne.symm hxa)]
    simp [va_up, Ne.symm hxa, r1]
  · rw [ab_u2_s, insAt_len hk]
    exact nI_1 _
  · rw [insAt_len hk]
    omega
  · rw [c0]
    rw [insAt_get hk] at hy
    by_cases h1 : j < k
    · rw [if_pos h1] at hy
      rw [ab_u2_n _ _ (Or.inr (by omega))]
      simp only [va_up, if_true]
      rw [va_cpy, if_neg (by rw [c1]; omega)]
      exact hel j y hy
    · rw [if_neg h1] at hy
      by_cases h2 : j = k
      · rw [if_pos h2] at hy
        rw [h2, ab_u2_s]
        exact hy
      · rw [if_neg h2] at hy
        have hj := (List.getElem?_eq_some_iff.mp hy).1
        rw [ab_u2_n _ _ (Or.inr h2)]
        simp only [va_up, if_true]
        rw [va_cpy, if_pos (by rw [c1, c2]; omega), c1, show k + (j - (k + 1)) = j - 1 by omega]
        exact hel (j - 1) y hy
  · rcases insAt_mem hy with rfl | hy
    · exact hq
    · exact hok y hy
  · rw [ab_u2_r _ _ hj]
    simp [va_up, hj]
def al_c (len cap : Nat) : Nat := if len = cap then 1 else 0
def al_s (len cap : Nat) : Nat := if len = cap then nc cap else 0
/-- what a list's change leaves -/
def al_post (n : Nat) (S : ab_SH) (R : ab_RR) (I : ab_II) (x arr cap : Nat) (l l' : List Nat) (h : ab_M) : Prop :=
  ∃ n' S' R' I' arr', h = (n', S', R', I') ∧ al_L n' S' R' I' x arr' (if l.length = cap then nc cap else cap) l' ∧ ab_ex n S R n' S' R' ∧ n' = n + al_c l.length cap ∧ (arr' = arr ∨ n ≤ arr') ∧ (∀ j, j < n → j ≠ x → j ≠ arr → R' j = R j) ∧ ∀ j, j < n → j ≠ x → I' j = I j
theorem s_add (hL : al_L n S R I x arr cap l) (h6 : cap ≤ 6000) (i : Int32) (k q : Nat) (hi : i.toInt = k) (hk : k ≤ l.length) (hq : ab_ok n S q 6) : wp 5 127 (al_c l.length cap) (al_s l.length cap) MJx4a65c_add_7a177 0 [(0, .ref x), (1, .int i), (2, .ref q)] [] (n, S, R, I) (fun v h => v = none ∧ al_post n S R I x arr cap l (insAt l k q) h) := by
  obtain ⟨o0, r1, i2, hlen, hcap, hc, hel, hok⟩ := id hL
  have hlen2 : (nI l.length).toInt = l.length := tI_n (by omega)
  have i2' : ∀ v, ab_u2 I x 0 v x 2 = nI l.length := fun v => by rw [ab_u2_n _ _ (Or.inr (by decide))]; exact i2
  have hL' : ∀ v, al_L n S R (ab_u2 I x 0 v) x arr cap l := fun v => ⟨o0, r1, i2' v, hlen, hcap, hc, hel, hok⟩
  by_cases hf : l.length = cap
  · have o0n : ab_ok (n + 1) (ab_nS S n 12 (nc cap)) x 0 := o0.new
    have hA : ab_ok (n + 1) (ab_nS S n 12 (nc cap)) n 12 := ⟨Nat.le_trans o0.1 (Nat.le_of_lt o0.2.1), by omega, by rw [ab_nS_at]⟩
    have hnc : 10 ≤ nc cap ∧ cap < nc cap ∧ nc cap ≤ 10000 := by
      unfold nc
      rcases hc with h | h
      · rw [if_pos h.1]; omega
      · rw [if_neg (by omega)]; omega
    have hmc : al_c l.length cap = 1 := if_pos hf
    have hms : al_s l.length cap = nc cap := if_pos hf
    rw [hmc, hms]
    have tail : ∀ v R', R' x 1 = some n → (∀ i q, l[i]? = some q → R' n i = some q) → (∀ j, j < n → j ≠ x → R' j = R j) →
        wp 5 127 0 0 MJx4a65c_add_7a177 38 [(0, .ref x), (1, .int i), (2, .ref q), (3, .int (nI l.length)), (4, .ref n)] [] (n + 1, ab_nS S n 12 (nc cap), R', ab_nI (ab_u2 I x 0 v) n) (fun v h => v = none ∧ al_post n S R I x arr cap l (insAt l k q) h) := by
      intro v R' g1 g2 g3
      refine s_add_tail o0n g1 (by rw [ab_nI_ne _ o0.2.1]; exact i2' v) (by omega) hnc.1 hnc.2.2 hA (by rw [ab_nS_at]) g2 (fun y hy => (hok y hy).new) i k q hi hk hq.new _ (fun R2 I2 h1 h2 h3 => ⟨rfl, n + 1, _, R2, I2, n, rfl, by rw [if_pos hf]; exact h1, ⟨by omega, fun j hj => ab_nS_ne S _ _ hj, fun j _ hj k0 k12 => ?_⟩, by rw [hmc], Or.inr (Nat.le_refl n), fun j hj hjx hja => ?_, fun j hj hjx => ?_⟩)
      · rw [h2 j (Nat.ne_of_lt hj)]
        exact g3 j hj (fun e => k0 (by rw [e]; exact o0.2.2))
      · rw [h2 j (Nat.ne_of_lt hj)]
        exact g3 j hj hjx
      · rw [h3 j hjx, ab_nI_ne _ hj, ab_u2_r _ _ hjx]
    have lenC : ∀ (L : List (Nat × Value)) (st : List Value) (v : Int32) (post : ab_Po) (mc ms : Nat), wp 5 127 mc ms MJx4a65c_add_7a177 29 L (.int (nI cap) :: st) (n, S, R, ab_u2 I x 0 v) post → wp 5 127 mc ms MJx4a65c_add_7a177 28 L (.ref arr :: st) (n, S, R, ab_u2 I x 0 v) post := by
      intro L st v post mc ms hh
      rcases hc with ⟨h0, h1⟩ | ⟨-, hA', hz⟩
      · subst h1
        subst h0
        exact wp_alen0 dJx4a65c_add_7a177_28 hh
      · refine wp_alen dJx4a65c_add_7a177_28 (Or.inr (Or.inr (Or.inr hA'))) ?_
        rw [hz]
        exact hh
    first | refine wp_aload_n (pc := 0) dJx4a65c_add_7a177_0 rfl ?_ | refine wp_aload_nN (pc := 0) dJx4a65c_add_7a177_0 rfl ?_
    refine wp_iload_n (pc := 1) dJx4a65c_add_7a177_1 rfl ?_
    refine cv_ArrayList_135 (pc := 2) (s_rcfa hL i (by omega) (by omega)) rfl dJx4a65c_add_7a177_2 (by assumption) ⟨by decide, by decide, Nat.zero_le _, Nat.zero_le _⟩ (Nat.le_of_ble_eq_true rfl) (fun v h hp => ?_)
    obtain ⟨rfl, rfl⟩ := hp
    first | refine wp_aload_n (pc := 5) dJx4a65c_add_7a177_5 rfl ?_ | refine wp_aload_nN (pc := 5) dJx4a65c_add_7a177_5 rfl ?_
    refine wp_dup (pc := 6) dJx4a65c_add_7a177_6 rfl ?_
    refine wp_getI (pc := 7) dJx4a65c_add_7a177_7 fl_ArrayList_63 (by assumption) rfl ?_
    refine wp_iconst (pc := 10) (v := 1) dJx4a65c_add_7a177_10 (by decide) ?_
    refine wp_iadd (pc := 11) dJx4a65c_add_7a177_11 ?_
    refine wp_putI (pc := 12) dJx4a65c_add_7a177_12 fl_ArrayList_63 (by assumption) rfl rfl (Or.inl rfl) ?_
    first | refine wp_aload_n (pc := 15) dJx4a65c_add_7a177_15 rfl ?_ | refine wp_aload_nN (pc := 15) dJx4a65c_add_7a177_15 rfl ?_
    refine wp_getI (pc := 16) dJx4a65c_add_7a177_16 fl_ArrayList_48 (by assumption) rfl ?_
    rw [i2']
    refine wp_dup (pc := 19) dJx4a65c_add_7a177_19 rfl ?_
    refine wp_istore_n (pc := 20) dJx4a65c_add_7a177_20 (by decide) rfl ?_
    first | refine wp_aload_n (pc := 21) dJx4a65c_add_7a177_21 rfl ?_ | refine wp_aload_nN (pc := 21) dJx4a65c_add_7a177_21 rfl ?_
    refine wp_getR (pc := 22) dJx4a65c_add_7a177_22 fl_ArrayList_9 (by assumption) rfl (by assumption) ?_
    refine wp_dup (pc := 25) dJx4a65c_add_7a177_25 rfl ?_
    first | refine wp_astore (pc := 26) dJx4a65c_add_7a177_26 (by decide) rfl ?_ | refine wp_astoreN (pc := 26) dJx4a65c_add_7a177_26 (by decide) rfl ?_
    refine lenC _ _ _ _ _ _ ?_
    refine wp_icmp_ne (pc := 29) (tgt := 38) dJx4a65c_add_7a177_29 (by decide) (fun hc => ?_) (fun hc => ?_)
    · rw [hf] at hc; exact absurd rfl hc
    · skip
      first | refine wp_aload_n (pc := 32) dJx4a65c_add_7a177_32 rfl ?_ | refine wp_aload_nN (pc := 32) dJx4a65c_add_7a177_32 rfl ?_
      refine cv_ArrayList_129 (pc := 33) (s_grow (hL' _) hf h6) rfl dJx4a65c_add_7a177_33 (by assumption) ⟨by decide, by decide, Nat.le_refl _, by show nc cap ≤ nc cap - 0; omega⟩ (Nat.le_of_ble_eq_true rfl) (fun v h hp => ?_)
      obtain ⟨rfl, R', rfl, g1, g2, g3⟩ := hp
      first | refine wp_astore (pc := 36) dJx4a65c_add_7a177_36 (by decide) rfl ?_ | refine wp_astoreN (pc := 36) dJx4a65c_add_7a177_36 (by decide) rfl ?_
      refine wp_room (mc' := 0) (ms' := 0) (Nat.zero_le _) (Nat.zero_le _) ?_
      refine wp_loc (L' := [(0, .ref x), (1, .int i), (2, .ref q), (3, .int (nI l.length)), (4, .ref n)]) ⟨rfl, rfl, rfl, rfl, rfl, trivial⟩ ?_
      exact tail _ R' g1 g2 g3
  · have hmc : al_c l.length cap = 0 := if_neg hf
    have hms : al_s l.length cap = 0 := if_neg hf
    rw [hmc, hms]
    have hA : 10 ≤ cap ∧ ab_ok n S arr 12 ∧ (S arr).2 = cap := by
      rcases hc with h | h
      · omega
      · exact h
    obtain ⟨h10, o1, hz⟩ := hA
    first | refine wp_aload_n (pc := 0) dJx4a65c_add_7a177_0 rfl ?_ | refine wp_aload_nN (pc := 0) dJx4a65c_add_7a177_0 rfl ?_
    refine wp_iload_n (pc := 1) dJx4a65c_add_7a177_1 rfl ?_
    refine cv_ArrayList_135 (pc := 2) (s_rcfa hL i (by omega) (by omega)) rfl dJx4a65c_add_7a177_2 (by assumption) ⟨by decide, by decide, Nat.zero_le _, Nat.zero_le _⟩ (Nat.le_of_ble_eq_true rfl) (fun v h hp => ?_)
    obtain ⟨rfl, rfl⟩ := hp
    first | refine wp_aload_n (pc := 5) dJx4a65c_add_7a177_5 rfl ?_ | refine wp_aload_nN (pc := 5) dJx4a65c_add_7a177_5 rfl ?_
    refine wp_dup (pc := 6) dJx4a65c_add_7a177_6 rfl ?_
    refine wp_getI (pc := 7) dJx4a65c_add_7a177_7 fl_ArrayList_63 (by assumption) rfl ?_
    refine wp_iconst (pc := 10) (v := 1) dJx4a65c_add_7a177_10 (by decide) ?_
    refine wp_iadd (pc := 11) dJx4a65c_add_7a177_11 ?_
    refine wp_putI (pc := 12) dJx4a65c_add_7a177_12 fl_ArrayList_63 (by assumption) rfl rfl (Or.inl rfl) ?_
    first | refine wp_aload_n (pc := 15) dJx4a65c_add_7a177_15 rfl ?_ | refine wp_aload_nN (pc := 15) dJx4a65c_add_7a177_15 rfl ?_
    refine wp_getI (pc := 16) dJx4a65c_add_7a177_16 fl_ArrayList_48 (by assumption) rfl ?_
    rw [i2']
    refine wp_dup (pc := 19) dJx4a65c_add_7a177_19 rfl ?_
    refine wp_istore_n (pc := 20) dJx4a65c_add_7a177_20 (by decide) rfl ?_
    first | refine wp_aload_n (pc := 21) dJx4a65c_add_7a177_21 rfl ?_ | refine wp_aload_nN (pc := 21) dJx4a65c_add_7a177_21 rfl ?_
    refine wp_getR (pc := 22) dJx4a65c_add_7a177_22 fl_ArrayList_9 (by assumption) rfl (by assumption) ?_
    refine wp_dup (pc := 25) dJx4a65c_add_7a177_25 rfl ?_
    first | refine wp_astore (pc := 26) dJx4a65c_add_7a177_26 (by decide) rfl ?_ | refine wp_astoreN (pc := 26) dJx4a65c_add_7a177_26 (by decide) rfl ?_
    first | refine wp_alen (pc := 28) dJx4a65c_add_7a177_28 (Or.inl (by assumption)) ?_ | refine wp_alen (pc := 28) dJx4a65c_add_7a177_28 (Or.inr (Or.inl (by assumption))) ?_ | refine wp_alen (pc := 28) dJx4a65c_add_7a177_28 (Or.inr (Or.inr (Or.inl (by assumption)))) ?_ | refine wp_alen (pc := 28) dJx4a65c_add_7a177_28 (Or.inr (Or.inr (Or.inr (by assumption)))) ?_
    refine wp_icmp_ne (pc := 29) (tgt := 38) dJx4a65c_add_7a177_29 (by decide) (fun hc => ?_) (fun hc => ?_)
    · skip
      refine wp_loc (L' := [(0, .ref x), (1, .int i), (2, .ref q), (3, .int (nI l.length)), (4, .ref arr)]) ⟨rfl, rfl, rfl, rfl, rfl, trivial⟩ ?_
      refine s_add_tail o0 r1 (i2' _) (by omega) h10 hcap o1 hz hel hok i k q hi hk hq _ (fun R2 I2 h1 h2 h3 => ⟨rfl, n, S, R2, I2, arr, rfl, by rw [if_neg hf]; exact h1, ⟨Nat.le_refl _, fun _ _ => rfl, fun j _ hj k0 k12 => h2 j (fun e => k12 (by rw [e]; exact o1.2.2))⟩, by rw [hmc]; rfl, Or.inl rfl, fun j hj hjx hja => h2 j hja, fun j hj hjx => by rw [h3 j hjx, ab_u2_r _ _ hjx]⟩)
    · rw [hlen2, hz, tI_o (by omega)] at hc; omega
end LST
