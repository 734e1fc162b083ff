/-! A ROW OF ENTRIES -/
def rw_S (n : Nat) (S : ab_SH) (R : ab_RR) (r a b c cap : Nat) : Prop := ab_ok n S r 5 ∧ R r 0 = some a ∧ R r 1 = some b ∧ R r 2 = some c ∧ ab_ok n S a 9 ∧ ab_ok n S b 9 ∧ ab_ok n S c 9 ∧ (S a).2 = cap ∧ (S b).2 = cap ∧ (S c).2 = cap ∧ a ≠ b ∧ a ≠ c ∧ b ≠ c ∧ cap ≤ 10000
def rw_I (I : ab_II) (r a b c s : Nat) (f : Nat → En) : Prop := I r 3 = nI s ∧ ∀ k, I a k = (f k).1 ∧ I b k = (f k).2.1 ∧ I c k = (f k).2.2
theorem ab_ok_ne {n : Nat} {S : ab_SH} {r a i j : Nat} (h : ab_ok n S r i) (h' : ab_ok n S a j) (hij : i ≠ j) : r ≠ a := fun q => hij (by rw [← h.2.2, ← h'.2.2, q])
theorem rw_I.set {I : ab_II} {r a b c s k : Nat} {f : Nat → En} {e : En} (h : rw_I I r a b c s f) (h1 : a ≠ b) (h2 : a ≠ c) (h3 : b ≠ c) (g1 : r ≠ a) (g2 : r ≠ b) (g3 : r ≠ c) : rw_I (ab_u2 (ab_u2 (ab_u2 I a k e.1) b k e.2.1) c k e.2.2) r a b c s (va_up f k e) := by
  obtain ⟨h0, hk⟩ := h
  refine ⟨?_, fun j => ?_⟩
  · rw [ab_u2_n _ _ (Or.inl g3), ab_u2_n _ _ (Or.inl g2), ab_u2_n _ _ (Or.inl g1)]
    exact h0
  · obtain ⟨e1, e2, e3⟩ := hk j
    by_cases hj : j = k
    · subst hj
      simp [ab_u2, va_up, h1, h2, h3, h1.symm, h2.symm, h3.symm]
    · simp [ab_u2, va_up, hj, e1, e2, e3]
theorem rw_I.keep {I I' : ab_II} {r a b c s : Nat} {f : Nat → En} {P : List Nat} (h : rw_I I r a b c s f) (hf : ab_fr I I' P) (g0 : r ∉ P) (g1 : a ∉ P) (g2 : b ∉ P) (g3 : c ∉ P) : rw_I I' r a b c s f := by
  obtain ⟨h0, hk⟩ := h
  exact ⟨by rw [hf r g0]; exact h0, fun k => by rw [hf a g1, hf b g2, hf c g3]; exact hk k⟩
theorem rw_I.size {I : ab_II} {r a b c s s' : Nat} {f : Nat → En} {x : Int32} (h : rw_I I r a b c s f) (hx : x = nI s') (g1 : a ≠ r) (g2 : b ≠ r) (g3 : c ≠ r) : rw_I (ab_u2 I r 3 x) r a b c s' f := by
  obtain ⟨h0, hk⟩ := h
  exact ⟨by rw [ab_u2_s]; exact hx, fun k => by rw [ab_u2_n _ _ (Or.inl g1), ab_u2_n _ _ (Or.inl g2), ab_u2_n _ _ (Or.inl g3)]; exact hk k⟩
section ROW
variable {n : Nat} {S : ab_SH} {R : ab_RR} {I : ab_II} {r a b c cap s : Nat} {f : Nat → En} {x : Int32}
theorem s_X4_has (hS : rw_S n S R r a b c cap) (hI : I r 3 = nI s) (hs : s ≤ cap) (x : Int32) : wp 0 0 0 0 MX4_has 0 [(0, .ref r), (1, .int x)] [] (n, S, R, I) (fun v h => h = (n, S, R, I) ∧ v = some (.int (if 0 ≤ x.toInt ∧ x.toInt < s then 1 else 0))) := by
  obtain ⟨o0, q0, q1, q2, o1, o2, o3, z1, z2, z3, d1, d2, d3, hcap⟩ := hS
  refine wp_iload_n (pc := 0) dX4_has_0 rfl ?_
  refine wp_if_lt (pc := 1) (tgt := 16) dX4_has_1 (by decide) (fun hc => ?_) (fun hc => ?_)
  · skip
    refine wp_iconst (pc := 16) (v := 0) dX4_has_16 (by decide) ?_
    refine wp_ret (pc := 17) dX4_has_17 rfl (by first | trivial | exact Or.inl rfl | exact Or.inr rfl | assumption) ?_
    first | exact ⟨rfl, by rw [if_pos (by omega)]⟩ | exact ⟨rfl, by rw [if_neg (by omega)]⟩
  · skip
    refine wp_iload_n (pc := 4) dX4_has_4 rfl ?_
    first | refine wp_aload_n (pc := 5) dX4_has_5 rfl ?_ | refine wp_aload_nN (pc := 5) dX4_has_5 rfl ?_
    refine wp_getI (pc := 6) dX4_has_6 fl_Row_27 (by assumption) rfl ?_
    refine wp_icmp_ge (pc := 9) (tgt := 16) dX4_has_9 (by decide) (fun hc => ?_) (fun hc => ?_)
    · rw [hI, tI_n (by omega)] at hc
      refine wp_iconst (pc := 16) (v := 0) dX4_has_16 (by decide) ?_
      refine wp_ret (pc := 17) dX4_has_17 rfl (by first | trivial | exact Or.inl rfl | exact Or.inr rfl | assumption) ?_
      first | exact ⟨rfl, by rw [if_pos (by omega)]⟩ | exact ⟨rfl, by rw [if_neg (by omega)]⟩
    · rw [hI, tI_n (by omega)] at hc
      refine wp_iconst (pc := 12) (v := 1) dX4_has_12 (by decide) ?_
      refine wp_goto (pc := 13) (tgt := 17) dX4_has_13 (by decide) ?_
      refine wp_ret (pc := 17) dX4_has_17 rfl (by first | trivial | exact Or.inl rfl | exact Or.inr rfl | assumption) ?_
      first | exact ⟨rfl, by rw [if_pos (by omega)]⟩ | exact ⟨rfl, by rw [if_neg (by omega)]⟩
def rk_1 (s : Nat) (f : Nat → En) (x : Int32) : Int32 := if 0 ≤ x.toInt ∧ x.toInt < s then (f x.toInt.toNat).1 else cNONE
def rk_2 (s : Nat) (f : Nat → En) (x : Int32) : Int32 := if 0 ≤ x.toInt ∧ x.toInt < s then (f x.toInt.toNat).2.1 else cNONE
def rk_3 (s : Nat) (f : Nat → En) (x : Int32) : Int32 := if 0 ≤ x.toInt ∧ x.toInt < s then (f x.toInt.toNat).2.2 else cNONE
theorem s_X4_key (hS : rw_S n S R r a b c cap) (hI : rw_I I r a b c s f) (hs : s ≤ cap) (x : Int32) : wp 0 0 0 0 MX4_key 0 [(0, .ref r), (1, .int x)] [] (n, S, R, I) (fun v h => h = (n, S, R, I) ∧ v = some (.int (rk_1 s f x))) := by
  obtain ⟨o0, q0, q1, q2, o1, o2, o3, z1, z2, z3, d1, d2, d3, hcap⟩ := hS
  refine wp_iload_n (pc := 0) dX4_key_0 rfl ?_
  refine wp_if_lt (pc := 1) (tgt := 21) dX4_key_1 (by decide) (fun hc => ?_) (fun hc => ?_)
  · skip
    refine wp_ldc (pc := 21) (v := -1000009) dX4_key_21 cn_Row_31 ?_
    refine wp_ret (pc := 23) dX4_key_23 rfl (by first | trivial | exact Or.inl rfl | exact Or.inr rfl | assumption) ?_
    first | exact ⟨rfl, by rw [rk_1, if_neg (by omega)]⟩ | exact ⟨rfl, by rw [rk_1, if_pos (by omega), tI_c, (hI.2 _).1]⟩
  · skip
    refine wp_iload_n (pc := 4) dX4_key_4 rfl ?_
    first | refine wp_aload_n (pc := 5) dX4_key_5 rfl ?_ | refine wp_aload_nN (pc := 5) dX4_key_5 rfl ?_
    refine wp_getI (pc := 6) dX4_key_6 fl_Row_27 (by assumption) rfl ?_
    refine wp_icmp_ge (pc := 9) (tgt := 21) dX4_key_9 (by decide) (fun hc => ?_) (fun hc => ?_)
    · rw [hI.1, tI_n (by omega)] at hc
      refine wp_ldc (pc := 21) (v := -1000009) dX4_key_21 cn_Row_31 ?_
      refine wp_ret (pc := 23) dX4_key_23 rfl (by first | trivial | exact Or.inl rfl | exact Or.inr rfl | assumption) ?_
      first | exact ⟨rfl, by rw [rk_1, if_neg (by omega)]⟩ | exact ⟨rfl, by rw [rk_1, if_pos (by omega), tI_c, (hI.2 _).1]⟩
    · rw [hI.1, tI_n (by omega)] at hc
      first | refine wp_aload_n (pc := 12) dX4_key_12 rfl ?_ | refine wp_aload_nN (pc := 12) dX4_key_12 rfl ?_
      refine wp_getR (pc := 13) dX4_key_13 fl_Row_15 (by assumption) rfl (by assumption) ?_
      refine wp_iload_n (pc := 16) dX4_key_16 rfl ?_
      refine wp_iaload (pc := 17) dX4_key_17 (by assumption) (in_I (by omega) (by rw [z1]; omega)) ?_
      refine wp_goto (pc := 18) (tgt := 23) dX4_key_18 (by decide) ?_
      refine wp_ret (pc := 23) dX4_key_23 rfl (by first | trivial | exact Or.inl rfl | exact Or.inr rfl | assumption) ?_
      first | exact ⟨rfl, by rw [rk_1, if_neg (by omega)]⟩ | exact ⟨rfl, by rw [rk_1, if_pos (by omega), tI_c, (hI.2 _).1]⟩
theorem s_X4_number (hS : rw_S n S R r a b c cap) (hI : rw_I I r a b c s f) (hs : s ≤ cap) (x : Int32) : wp 0 0 0 0 MX4_number 0 [(0, .ref r), (1, .int x)] [] (n, S, R, I) (fun v h => h = (n, S, R, I) ∧ v = some (.int (rk_2 s f x))) := by
  obtain ⟨o0, q0, q1, q2, o1, o2, o3, z1, z2, z3, d1, d2, d3, hcap⟩ := hS
  refine wp_iload_n (pc := 0) dX4_number_0 rfl ?_
  refine wp_if_lt (pc := 1) (tgt := 21) dX4_number_1 (by decide) (fun hc => ?_) (fun hc => ?_)
  · skip
    refine wp_ldc (pc := 21) (v := -1000009) dX4_number_21 cn_Row_31 ?_
    refine wp_ret (pc := 23) dX4_number_23 rfl (by first | trivial | exact Or.inl rfl | exact Or.inr rfl | assumption) ?_
    first | exact ⟨rfl, by rw [rk_2, if_neg (by omega)]⟩ | exact ⟨rfl, by rw [rk_2, if_pos (by omega), tI_c, (hI.2 _).2.1]⟩
  · skip
    refine wp_iload_n (pc := 4) dX4_number_4 rfl ?_
    first | refine wp_aload_n (pc := 5) dX4_number_5 rfl ?_ | refine wp_aload_nN (pc := 5) dX4_number_5 rfl ?_
    refine wp_getI (pc := 6) dX4_number_6 fl_Row_27 (by assumption) rfl ?_
    refine wp_icmp_ge (pc := 9) (tgt := 21) dX4_number_9 (by decide) (fun hc => ?_) (fun hc => ?_)
    · rw [hI.1, tI_n (by omega)] at hc
      refine wp_ldc (pc := 21) (v := -1000009) dX4_number_21 cn_Row_31 ?_
      refine wp_ret (pc := 23) dX4_number_23 rfl (by first | trivial | exact Or.inl rfl | exact Or.inr rfl | assumption) ?_
      first | exact ⟨rfl, by rw [rk_2, if_neg (by omega)]⟩ | exact ⟨rfl, by rw [rk_2, if_pos (by omega), tI_c, (hI.2 _).2.1]⟩
    · rw [hI.1, tI_n (by omega)] at hc
      first | refine wp_aload_n (pc := 12) dX4_number_12 rfl ?_ | refine wp_aload_nN (pc := 12) dX4_number_12 rfl ?_
      refine wp_getR (pc := 13) dX4_number_13 fl_Row_21 (by assumption) rfl (by assumption) ?_
      refine wp_iload_n (pc := 16) dX4_number_16 rfl ?_
      refine wp_iaload (pc := 17) dX4_number_17 (by assumption) (in_I (by omega) (by rw [z2]; omega)) ?_
      refine wp_goto (pc := 18) (tgt := 23) dX4_number_18 (by decide) ?_
      refine wp_ret (pc := 23) dX4_number_23 rfl (by first | trivial | exact Or.inl rfl | exact Or.inr rfl | assumption) ?_
      first | exact ⟨rfl, by rw [rk_2, if_neg (by omega)]⟩ | exact ⟨rfl, by rw [rk_2, if_pos (by omega), tI_c, (hI.2 _).2.1]⟩
theorem s_X4_value (hS : rw_S n S R r a b c cap) (hI : rw_I I r a b c s f) (hs : s ≤ cap) (x : Int32) : wp 0 0 0 0 MX4_value 0 [(0, .ref r), (1, .int x)] [] (n, S, R, I) (fun v h => h = (n, S, R, I) ∧ v = some (.int (rk_3 s f x))) := by
  obtain ⟨o0, q0, q1, q2, o1, o2, o3, z1, z2, z3, d1, d2, d3, hcap⟩ := hS
  refine wp_iload_n (pc := 0) dX4_value_0 rfl ?_
  refine wp_if_lt (pc := 1) (tgt := 21) dX4_value_1 (by decide) (fun hc => ?_) (fun hc => ?_)
  · skip
    refine wp_ldc (pc := 21) (v := -1000009) dX4_value_21 cn_Row_31 ?_
    refine wp_ret (pc := 23) dX4_value_23 rfl (by first | trivial | exact Or.inl rfl | exact Or.inr rfl | assumption) ?_
    first | exact ⟨rfl, by rw [rk_3, if_neg (by omega)]⟩ | exact ⟨rfl, by rw [rk_3, if_pos (by omega), tI_c, (hI.2 _).2.2]⟩
  · skip
    refine wp_iload_n (pc := 4) dX4_value_4 rfl ?_
    first | refine wp_aload_n (pc := 5) dX4_value_5 rfl ?_ | refine wp_aload_nN (pc := 5) dX4_value_5 rfl ?_
    refine wp_getI (pc := 6) dX4_value_6 fl_Row_27 (by assumption) rfl ?_
    refine wp_icmp_ge (pc := 9) (tgt := 21) dX4_value_9 (by decide) (fun hc => ?_) (fun hc => ?_)
    · rw [hI.1, tI_n (by omega)] at hc
      refine wp_ldc (pc := 21) (v := -1000009) dX4_value_21 cn_Row_31 ?_
      refine wp_ret (pc := 23) dX4_value_23 rfl (by first | trivial | exact Or.inl rfl | exact Or.inr rfl | assumption) ?_
      first | exact ⟨rfl, by rw [rk_3, if_neg (by omega)]⟩ | exact ⟨rfl, by rw [rk_3, if_pos (by omega), tI_c, (hI.2 _).2.2]⟩
    · rw [hI.1, tI_n (by omega)] at hc
      first | refine wp_aload_n (pc := 12) dX4_value_12 rfl ?_ | refine wp_aload_nN (pc := 12) dX4_value_12 rfl ?_
      refine wp_getR (pc := 13) dX4_value_13 fl_Row_24 (by assumption) rfl (by assumption) ?_
      refine wp_iload_n (pc := 16) dX4_value_16 rfl ?_
      refine wp_iaload (pc := 17) dX4_value_17 (by assumption) (in_I (by omega) (by rw [z3]; omega)) ?_
      refine wp_goto (pc := 18) (tgt := 23) dX4_value_18 (by decide) ?_
      refine wp_ret (pc := 23) dX4_value_23 rfl (by first | trivial | exact Or.inl rfl | exact Or.inr rfl | assumption) ?_
      first | exact ⟨rfl, by rw [rk_3, if_neg (by omega)]⟩ | exact ⟨rfl, by rw [rk_3, if_pos (by omega), tI_c, (hI.2 _).2.2]⟩
theorem s_X4_isGrave (hS : rw_S n S R r a b c cap) (hI : rw_I I r a b c s f) (hs : s ≤ cap) (x : Int32) : wp 1 21 0 0 MX4_isGrave 0 [(0, .ref r), (1, .int x)] [] (n, S, R, I) (fun v h => h = (n, S, R, I) ∧ v = some (.int (if rk_3 s f x = cNONE then 1 else 0))) := by
  have o0 := hS.1
  first | refine wp_aload_n (pc := 0) dX4_isGrave_0 rfl ?_ | refine wp_aload_nN (pc := 0) dX4_isGrave_0 rfl ?_
  refine wp_iload_n (pc := 1) dX4_isGrave_1 rfl ?_
  refine cv_Row_32 (pc := 2) (s_X4_value hS hI hs x) rfl dX4_isGrave_2 (by assumption) ⟨by decide, by decide, Nat.zero_le _, Nat.zero_le _⟩ (Nat.le_of_ble_eq_true rfl) (fun v h hp => ?_)
  obtain ⟨rfl, rfl⟩ := hp
  refine wp_ldc (pc := 5) (v := -1000009) dX4_isGrave_5 cn_Row_31 ?_
  refine wp_icmp_ne (pc := 7) (tgt := 14) dX4_isGrave_7 (by decide) (fun hc => ?_) (fun hc => ?_)
  · have hc2 : rk_3 s f x ≠ cNONE := fun q => hc (by rw [q])
    refine wp_iconst (pc := 14) (v := 0) dX4_isGrave_14 (by decide) ?_
    refine wp_ret (pc := 15) dX4_isGrave_15 rfl (by first | trivial | exact Or.inl rfl | exact Or.inr rfl | assumption) ?_
    first | exact ⟨rfl, by rw [if_pos hc2]⟩ | exact ⟨rfl, by rw [if_neg hc2]⟩
  · have hc2 : rk_3 s f x = cNONE := tI_eq hc
    refine wp_iconst (pc := 10) (v := 1) dX4_isGrave_10 (by decide) ?_
    refine wp_goto (pc := 11) (tgt := 15) dX4_isGrave_11 (by decide) ?_
    refine wp_ret (pc := 15) dX4_isGrave_15 rfl (by first | trivial | exact Or.inl rfl | exact Or.inr rfl | assumption) ?_
    first | exact ⟨rfl, by rw [if_pos hc2]⟩ | exact ⟨rfl, by rw [if_neg hc2]⟩
theorem s_X4_told (hS : rw_S n S R r a b c cap) (hI : rw_I I r a b c s f) (hs : s ≤ cap) (x y : Int32) : wp 1 21 0 0 MX4_told 0 [(0, .ref r), (1, .int x), (2, .int y)] [] (n, S, R, I) (fun v h => h = (n, S, R, I) ∧ v = some (.int (if 0 ≤ x.toInt ∧ x.toInt < s then (if y.toInt = 0 then (f x.toInt.toNat).1 else if y.toInt = 1 then (f x.toInt.toNat).2.1 else if y.toInt = 2 then (f x.toInt.toNat).2.2 else cBAD) else cBAD))) := by
  have o0 := hS.1
  first | refine wp_aload_n (pc := 0) dX4_told_0 rfl ?_ | refine wp_aload_nN (pc := 0) dX4_told_0 rfl ?_
  refine wp_iload_n (pc := 1) dX4_told_1 rfl ?_
  refine cv_Row_36 (pc := 2) (s_X4_has hS hI.1 hs x) rfl dX4_told_2 (by assumption) ⟨by decide, by decide, Nat.zero_le _, Nat.zero_le _⟩ (Nat.le_of_ble_eq_true rfl) (fun v h hp => ?_)
  obtain ⟨rfl, rfl⟩ := hp
  refine wp_if_ne (pc := 5) (tgt := 11) dX4_told_5 (by decide) (fun hc => ?_) (fun hc => ?_)
  · have hx : 0 ≤ x.toInt ∧ x.toInt < s := by
      by_cases q : 0 ≤ x.toInt ∧ x.toInt < s
      · exact q
      · rw [if_neg q] at hc; exact absurd rfl hc
    refine wp_iload_n (pc := 11) dX4_told_11 rfl ?_
    refine wp_tableAt (pc := 12) (0) (off := 28) (tgt := 40) dX4_told_12 (by decide) (by decide) rfl (by decide) (fun hc => ?_) (fun hc => ?_)
    · skip
      first | refine wp_aload_n (pc := 40) dX4_told_40 rfl ?_ | refine wp_aload_nN (pc := 40) dX4_told_40 rfl ?_
      refine wp_iload_n (pc := 41) dX4_told_41 rfl ?_
      refine cv_Row_41 (pc := 42) (s_X4_key hS hI hs x) rfl dX4_told_42 (by assumption) ⟨by decide, by decide, Nat.zero_le _, Nat.zero_le _⟩ (Nat.le_of_ble_eq_true rfl) (fun v h hp => ?_)
      obtain ⟨rfl, rfl⟩ := hp
      refine wp_ret (pc := 45) dX4_told_45 rfl (by first | trivial | exact Or.inl rfl | exact Or.inr rfl | assumption) ?_
      exact ⟨rfl, by rw [if_pos hx, if_pos hc, rk_1, if_pos hx]⟩
    refine wp_tableAt (pc := 12) (1) (off := 34) (tgt := 46) dX4_told_12 (by decide) (by decide) rfl (by decide) (fun hc => ?_) (fun hc => ?_)
    · skip
      first | refine wp_aload_n (pc := 46) dX4_told_46 rfl ?_ | refine wp_aload_nN (pc := 46) dX4_told_46 rfl ?_
      refine wp_iload_n (pc := 47) dX4_told_47 rfl ?_
      refine cv_Row_44 (pc := 48) (s_X4_number hS hI hs x) rfl dX4_told_48 (by assumption) ⟨by decide, by decide, Nat.zero_le _, Nat.zero_le _⟩ (Nat.le_of_ble_eq_true rfl) (fun v h hp => ?_)
      obtain ⟨rfl, rfl⟩ := hp
      refine wp_ret (pc := 51) dX4_told_51 rfl (by first | trivial | exact Or.inl rfl | exact Or.inr rfl | assumption) ?_
      exact ⟨rfl, by rw [if_pos hx, if_neg (by omega), if_pos hc, rk_2, if_pos hx]⟩
    refine wp_tableAt (pc := 12) (2) (off := 40) (tgt := 52) dX4_told_12 (by decide) (by decide) rfl (by decide) (fun hc => ?_) (fun hc => ?_)
    · skip
      first | refine wp_aload_n (pc := 52) dX4_told_52 rfl ?_ | refine wp_aload_nN (pc := 52) dX4_told_52 rfl ?_
      refine wp_iload_n (pc := 53) dX4_told_53 rfl ?_
      refine cv_Row_32 (pc := 54) (s_X4_value hS hI hs x) rfl dX4_told_54 (by assumption) ⟨by decide, by decide, Nat.zero_le _, Nat.zero_le _⟩ (Nat.le_of_ble_eq_true rfl) (fun v h hp => ?_)
      obtain ⟨rfl, rfl⟩ := hp
      refine wp_ret (pc := 57) dX4_told_57 rfl (by first | trivial | exact Or.inl rfl | exact Or.inr rfl | assumption) ?_
      exact ⟨rfl, by rw [if_pos hx, if_neg (by omega), if_neg (by omega), if_pos hc, rk_3, if_pos hx]⟩
    refine wp_tableOut (pc := 12) (tgt := 58) dX4_told_12 (by omega) (by decide) ?_
    refine wp_ldc (pc := 58) (v := -1000002) dX4_told_58 cn_Row_40 ?_
    refine wp_ret (pc := 60) dX4_told_60 rfl (by first | trivial | exact Or.inl rfl | exact Or.inr rfl | assumption) ?_
    exact ⟨rfl, by rw [if_pos hx, if_neg (by omega), if_neg (by omega), if_neg (by omega)]⟩
  · have hx : ¬ (0 ≤ x.toInt ∧ x.toInt < s) := fun q => by rw [if_pos q] at hc; exact absurd hc (by decide)
    refine wp_ldc (pc := 8) (v := -1000002) dX4_told_8 cn_Row_40 ?_
    refine wp_ret (pc := 10) dX4_told_10 rfl (by first | trivial | exact Or.inl rfl | exact Or.inr rfl | assumption) ?_
    exact ⟨rfl, by rw [if_neg hx]⟩
theorem s_X4_setAt (hS : rw_S n S R r a b c cap) (hI : rw_I I r a b c s f) (hs : s ≤ cap) (x k nu v : Int32) (h0 : 0 ≤ x.toInt) (h1 : x.toInt < s) : wp 1 21 0 0 MX4_setAt 0 [(0, .ref r), (1, .int x), (2, .int k), (3, .int nu), (4, .int v)] [] (n, S, R, I) (fun w h => w = none ∧ ∃ I', h = (n, S, R, I') ∧ ab_fr I I' [a, b, c] ∧ rw_I I' r a b c s (va_up f x.toInt.toNat (k, nu, v))) := by
  obtain ⟨o0, q0, q1, q2, o1, o2, o3, z1, z2, z3, d1, d2, d3, hcap⟩ := id hS
  first | refine wp_aload_n (pc := 0) dX4_setAt_0 rfl ?_ | refine wp_aload_nN (pc := 0) dX4_setAt_0 rfl ?_
  refine wp_iload_n (pc := 1) dX4_setAt_1 rfl ?_
  refine cv_Row_36 (pc := 2) (s_X4_has hS hI.1 hs x) rfl dX4_setAt_2 (by assumption) ⟨by decide, by decide, Nat.zero_le _, Nat.zero_le _⟩ (Nat.le_of_ble_eq_true rfl) (fun v h hp => ?_)
  obtain ⟨rfl, rfl⟩ := hp
  rw [if_pos ⟨h0, h1⟩]
  refine wp_if_eq (pc := 5) (tgt := 30) dX4_setAt_5 (by decide) (fun hc => ?_) (fun hc => ?_)
  · exact absurd hc (by decide)
  · skip
    first | refine wp_aload_n (pc := 8) dX4_setAt_8 rfl ?_ | refine wp_aload_nN (pc := 8) dX4_setAt_8 rfl ?_
    refine wp_getR (pc := 9) dX4_setAt_9 fl_Row_15 (by assumption) rfl (by assumption) ?_
    refine wp_iload_n (pc := 12) dX4_setAt_12 rfl ?_
    refine wp_iload_n (pc := 13) dX4_setAt_13 rfl ?_
    refine wp_iastore (pc := 14) dX4_setAt_14 (by assumption) (in_I h0 (by rw [z1]; omega)) ?_
    first | refine wp_aload_n (pc := 15) dX4_setAt_15 rfl ?_ | refine wp_aload_nN (pc := 15) dX4_setAt_15 rfl ?_
    refine wp_getR (pc := 16) dX4_setAt_16 fl_Row_21 (by assumption) rfl (by assumption) ?_
    refine wp_iload_n (pc := 19) dX4_setAt_19 rfl ?_
    refine wp_iload_n (pc := 20) dX4_setAt_20 rfl ?_
    refine wp_iastore (pc := 21) dX4_setAt_21 (by assumption) (in_I h0 (by rw [z2]; omega)) ?_
    first | refine wp_aload_n (pc := 22) dX4_setAt_22 rfl ?_ | refine wp_aload_nN (pc := 22) dX4_setAt_22 rfl ?_
    refine wp_getR (pc := 23) dX4_setAt_23 fl_Row_24 (by assumption) rfl (by assumption) ?_
    refine wp_iload_n (pc := 26) dX4_setAt_26 rfl ?_
    refine wp_iload (pc := 27) dX4_setAt_27 rfl ?_
    refine wp_iastore (pc := 29) dX4_setAt_29 (by assumption) (in_I h0 (by rw [z3]; omega)) ?_
    refine wp_retv (pc := 30) dX4_setAt_30 rfl ?_
    exact ⟨rfl, _, rfl, ((ab_fr.u2 (by simp)).tr1 (ab_fr.u2 (by simp))).tr1 (ab_fr.u2 (by simp)), hI.set (e := (k, nu, v)) d1 d2 d3 (ab_ok_ne o0 o1 (by decide)) (ab_ok_ne o0 o2 (by decide)) (ab_ok_ne o0 o3 (by decide))⟩
theorem s_X4_copyTo {r' a' b' c' cap' s' : Nat} {f' : Nat → En} (hS : rw_S n S R r a b c cap) (hI : rw_I I r a b c s f) (hs : s ≤ cap) (hS' : rw_S n S R r' a' b' c' cap') (hI' : rw_I I r' a' b' c' s' f') (hs' : s' ≤ cap') (x y : Int32) (h0 : 0 ≤ x.toInt) (h1 : x.toInt < s) (g0 : 0 ≤ y.toInt) (g1 : y.toInt < s') :
    wp 2 45 0 0 MX4_copyTo 0 [(0, .ref r), (1, .int x), (2, .ref r'), (3, .int y)] [] (n, S, R, I) (fun w h => w = none ∧ ∃ I', h = (n, S, R, I') ∧ ab_fr I I' [a, b, c] ∧ rw_I I' r a b c s (va_up f x.toInt.toNat (f' y.toInt.toNat))) := by
  have o0 := hS.1
  have o0' := hS'.1
  first | refine wp_aload_n (pc := 0) dX4_copyTo_0 rfl ?_ | refine wp_aload_nN (pc := 0) dX4_copyTo_0 rfl ?_
  refine wp_iload_n (pc := 1) dX4_copyTo_1 rfl ?_
  first | refine wp_aload_n (pc := 2) dX4_copyTo_2 rfl ?_ | refine wp_aload_nN (pc := 2) dX4_copyTo_2 rfl ?_
  refine wp_iload_n (pc := 3) dX4_copyTo_3 rfl ?_
  refine cv_Row_41 (pc := 4) (s_X4_key hS' hI' hs' y) rfl dX4_copyTo_4 (by assumption) ⟨by decide, by decide, Nat.zero_le _, Nat.zero_le _⟩ (Nat.le_of_ble_eq_true rfl) (fun v h hp => ?_)
  obtain ⟨rfl, rfl⟩ := hp
  first | refine wp_aload_n (pc := 7) dX4_copyTo_7 rfl ?_ | refine wp_aload_nN (pc := 7) dX4_copyTo_7 rfl ?_
  refine wp_iload_n (pc := 8) dX4_copyTo_8 rfl ?_
  refine cv_Row_44 (pc := 9) (s_X4_number hS' hI' hs' y) rfl dX4_copyTo_9 (by assumption) ⟨by decide, by decide, Nat.zero_le _, Nat.zero_le _⟩ (Nat.le_of_ble_eq_true rfl) (fun v h hp => ?_)
  obtain ⟨rfl, rfl⟩ := hp
  first | refine wp_aload_n (pc := 12) dX4_copyTo_12 rfl ?_ | refine wp_aload_nN (pc := 12) dX4_copyTo_12 rfl ?_
  refine wp_iload_n (pc := 13) dX4_copyTo_13 rfl ?_
  refine cv_Row_32 (pc := 14) (s_X4_value hS' hI' hs' y) rfl dX4_copyTo_14 (by assumption) ⟨by decide, by decide, Nat.zero_le _, Nat.zero_le _⟩ (Nat.le_of_ble_eq_true rfl) (fun v h hp => ?_)
  obtain ⟨rfl, rfl⟩ := hp
  refine cv_Row_47 (pc := 17) (s_X4_setAt hS hI hs x _ _ _ h0 h1) rfl dX4_copyTo_17 (by assumption) ⟨by decide, by decide, Nat.zero_le _, Nat.zero_le _⟩ (Nat.le_of_ble_eq_true rfl) (fun v h hp => ?_)
  obtain ⟨rfl, I', rfl, hf, hr⟩ := hp
  refine wp_retv (pc := 20) dX4_copyTo_20 rfl ?_
  refine ⟨rfl, I', rfl, hf, ?_⟩
  rw [rk_1, rk_2, rk_3, if_pos ⟨g0, g1⟩, if_pos ⟨g0, g1⟩, if_pos ⟨g0, g1⟩] at hr
  exact hr
theorem s_X4_add (hS : rw_S n S R r a b c cap) (hI : rw_I I r a b c s f) (hs : s < cap) (k nu v : Int32) : wp 2 45 0 0 MX4_add 0 [(0, .ref r), (1, .int k), (2, .int nu), (3, .int v)] [] (n, S, R, I) (fun w h => w = none ∧ ∃ I', h = (n, S, R, I') ∧ ab_fr I I' [r, a, b, c] ∧ rw_I I' r a b c (s + 1) (va_up f s (k, nu, v))) := by
  obtain ⟨o0, q0, q1, q2, o1, o2, o3, z1, z2, z3, d1, d2, d3, hcap⟩ := id hS
  have e1 : I r 3 + 1 = nI (s + 1) := by rw [hI.1]; exact nI_1 s
  have e2 : I r 3 + 1 - 1 = nI s := by rw [e1]; exact nI_pred s
  have hI2 : rw_I (ab_u2 I r 3 (I r 3 + 1)) r a b c (s + 1) f := hI.size e1 (ab_ok_ne o1 o0 (by decide)) (ab_ok_ne o2 o0 (by decide)) (ab_ok_ne o3 o0 (by decide))
  first | refine wp_aload_n (pc := 0) dX4_add_0 rfl ?_ | refine wp_aload_nN (pc := 0) dX4_add_0 rfl ?_
  refine wp_getI (pc := 1) dX4_add_1 fl_Row_27 (by assumption) rfl ?_
  first | refine wp_aload_n (pc := 4) dX4_add_4 rfl ?_ | refine wp_aload_nN (pc := 4) dX4_add_4 rfl ?_
  refine wp_getR (pc := 5) dX4_add_5 fl_Row_15 (by assumption) rfl (by assumption) ?_
  first | refine wp_alen (pc := 8) dX4_add_8 (Or.inl (by assumption)) ?_ | refine wp_alen (pc := 8) dX4_add_8 (Or.inr (Or.inl (by assumption))) ?_ | refine wp_alen (pc := 8) dX4_add_8 (Or.inr (Or.inr (Or.inl (by assumption)))) ?_ | refine wp_alen (pc := 8) dX4_add_8 (Or.inr (Or.inr (Or.inr (by assumption)))) ?_
  refine wp_icmp_ge (pc := 9) (tgt := 35) dX4_add_9 (by decide) (fun hc => ?_) (fun hc => ?_)
  · exact absurd hc (by rw [hI.1, tI_n (by omega), tI_o (by omega), z1]; omega)
  · skip
    first | refine wp_aload_n (pc := 12) dX4_add_12 rfl ?_ | refine wp_aload_nN (pc := 12) dX4_add_12 rfl ?_
    refine wp_dup (pc := 13) dX4_add_13 rfl ?_
    refine wp_getI (pc := 14) dX4_add_14 fl_Row_27 (by assumption) rfl ?_
    refine wp_iconst (pc := 17) (v := 1) dX4_add_17 (by decide) ?_
    refine wp_iadd (pc := 18) dX4_add_18 ?_
    refine wp_putI (pc := 19) dX4_add_19 fl_Row_27 (by assumption) rfl rfl (Or.inl rfl) ?_
    first | refine wp_aload_n (pc := 22) dX4_add_22 rfl ?_ | refine wp_aload_nN (pc := 22) dX4_add_22 rfl ?_
    first | refine wp_aload_n (pc := 23) dX4_add_23 rfl ?_ | refine wp_aload_nN (pc := 23) dX4_add_23 rfl ?_
    refine wp_getI (pc := 24) dX4_add_24 fl_Row_27 (by assumption) rfl ?_
    refine wp_iconst (pc := 27) (v := 1) dX4_add_27 (by decide) ?_
    refine wp_isub (pc := 28) dX4_add_28 ?_
    rw [ab_u2_s, e2]
    refine wp_iload_n (pc := 29) dX4_add_29 rfl ?_
    refine wp_iload_n (pc := 30) dX4_add_30 rfl ?_
    refine wp_iload_n (pc := 31) dX4_add_31 rfl ?_
    refine cv_Row_47 (pc := 32) (s_X4_setAt hS hI2 hs (nI s) k nu v (by rw [tI_n (by omega)]; omega) (by rw [tI_n (by omega)]; omega)) rfl dX4_add_32 (by assumption) ⟨by decide, by decide, Nat.zero_le _, Nat.zero_le _⟩ (Nat.le_of_ble_eq_true rfl) (fun v h hp => ?_)
    obtain ⟨rfl, I', rfl, hf, hr⟩ := hp
    refine wp_retv (pc := 35) dX4_add_35 rfl ?_
    refine ⟨rfl, I', rfl, (ab_fr.u2 (by simp)).tr hf (fun _ q => q) (by simp), ?_⟩
    rw [tI_n (by omega)] at hr
    exact hr
end ROW
