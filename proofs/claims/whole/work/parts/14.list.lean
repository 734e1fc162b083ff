/-! ArrayList, AND A ROW OF FILES -/
def al_L (n : Nat) (S : ab_SH) (R : ab_RR) (I : ab_II) (x arr cap : Nat) (l : List Nat) : Prop :=
  ab_ok n S x 0 ∧ R x 1 = some arr ∧ I x 2 = nI l.length ∧ l.length ≤ cap ∧ cap ≤ 10000 ∧ (cap = 0 ∧ arr = 0 ∨ 10 ≤ cap ∧ ab_ok n S arr 12 ∧ (S arr).2 = cap) ∧ (∀ i q, l[i]? = some q → R arr i = some q) ∧ ∀ q ∈ l, ab_ok n S q 6
def nc (cap : Nat) : Nat := if cap = 0 then 10 else cap + cap / 2
theorem ab_ok.new {n : Nat} {S : ab_SH} {q ci k len : Nat} (h : ab_ok n S q ci) : ab_ok (n + 1) (ab_nS S n k len) q ci := ⟨h.1, Nat.lt_succ_of_lt h.2.1, by
  rw [show ab_nS S n k len q = S q by simp [va_up, Nat.ne_of_lt h.2.1]]
  exact h.2.2⟩
theorem ab_nS_at (S : ab_SH) (n k len : Nat) : ab_nS S n k len n = (k, len) := by simp [va_up]
theorem ab_nS_ne (S : ab_SH) {n j : Nat} (k len : Nat) (h : j < n) : ab_nS S n k len j = S j := by simp [va_up, Nat.ne_of_lt h]
theorem ab_nR_ne (R : ab_RR) {n j : Nat} (h : j < n) : ab_nR R n j = R j := by simp [va_up, Nat.ne_of_lt h]
theorem ab_nI_ne (I : ab_II) {n j : Nat} (h : j < n) : ab_nI I n j = I j := by simp [va_up, Nat.ne_of_lt h]
section LST
variable {n : Nat} {S : ab_SH} {R : ab_RR} {I : ab_II} {x arr cap : Nat} {l : List Nat}
theorem s_size (hL : al_L n S R I x arr cap l) : wp 0 0 0 0 MJx4a65c_size_8abf5 0 [(0, .ref x)] [] (n, S, R, I) (fun v h => h = (n, S, R, I) ∧ v = some (.int (nI l.length))) := by
  have o0 := hL.1
  first | refine wp_aload_n (pc := 0) dJx4a65c_size_8abf5_0 rfl ?_ | refine wp_aload_nN (pc := 0) dJx4a65c_size_8abf5_0 rfl ?_
  refine wp_getI (pc := 1) dJx4a65c_size_8abf5_1 fl_ArrayList_48 (by assumption) rfl ?_
  refine wp_ret (pc := 4) dJx4a65c_size_8abf5_4 rfl (by first | trivial | exact Or.inl rfl | exact Or.inr rfl | assumption) ?_
  exact ⟨rfl, by rw [hL.2.2.1]⟩
theorem s_chk3 (i y : Int32) (h0 : 0 ≤ i.toInt) (h1 : i.toInt < y.toInt) : wp 0 0 0 0 MJ3_checkIndex_8e157 0 [(0, .int i), (1, .int y), (2, .null)] [] (n, S, R, I) (fun v h => h = (n, S, R, I) ∧ v = some (.int i)) := by
  refine wp_iload_n (pc := 0) dJ3_checkIndex_8e157_0 rfl ?_
  refine wp_if_lt (pc := 1) (tgt := 9) dJ3_checkIndex_8e157_1 (by decide) (fun hc => ?_) (fun hc => ?_)
  · omega
  · skip
    refine wp_iload_n (pc := 4) dJ3_checkIndex_8e157_4 rfl ?_
    refine wp_iload_n (pc := 5) dJ3_checkIndex_8e157_5 rfl ?_
    refine wp_icmp_lt (pc := 6) (tgt := 16) dJ3_checkIndex_8e157_6 (by decide) (fun hc => ?_) (fun hc => ?_)
    · skip
      refine wp_iload_n (pc := 16) dJ3_checkIndex_8e157_16 rfl ?_
      refine wp_ret (pc := 17) dJ3_checkIndex_8e157_17 rfl (by first | trivial | exact Or.inl rfl | exact Or.inr rfl | assumption) ?_
      exact ⟨rfl, rfl⟩
    · omega
theorem s_chk (i y : Int32) (h0 : 0 ≤ i.toInt) (h1 : i.toInt < y.toInt) : wp 1 22 0 0 MJ15_checkIndex_7cf53 0 [(0, .int i), (1, .int y)] [] (n, S, R, I) (fun v h => h = (n, S, R, I) ∧ v = some (.int i)) := by
  refine wp_iload_n (pc := 0) dJ15_checkIndex_7cf53_0 rfl ?_
  refine wp_iload_n (pc := 1) dJ15_checkIndex_7cf53_1 rfl ?_
  refine wp_null (pc := 2) dJ15_checkIndex_7cf53_2 ?_
  refine cv_Objects_105 (pc := 3) (s_chk3 i y h0 h1) rfl dJ15_checkIndex_7cf53_3 ⟨by decide, by decide, Nat.zero_le _, Nat.zero_le _⟩ (Nat.le_of_ble_eq_true rfl) (fun v h hp => ?_)
  obtain ⟨rfl, rfl⟩ := hp
  refine wp_ret (pc := 6) dJ15_checkIndex_7cf53_6 rfl (by first | trivial | exact Or.inl rfl | exact Or.inr rfl | assumption) ?_
  exact ⟨rfl, rfl⟩
theorem s_elem (hL : al_L n S R I x arr cap l) (i : Int32) (k q : Nat) (hi : i.toInt = k) (hq : l[k]? = some q) : wp 0 0 0 0 MJx4a65c_elementData_915e3 0 [(0, .ref x), (1, .int i)] [] (n, S, R, I) (fun v h => h = (n, S, R, I) ∧ v = some (.ref q)) := by
  obtain ⟨o0, r1, i2, hlen, hcap, hc, hel, hok⟩ := hL
  have hk : k < l.length := (List.getElem?_eq_some_iff.mp hq).1
  have ho : ab_ok n S arr 12 ∧ (S arr).2 = cap := by
    rcases hc with h | h
    · omega
    · exact h.2
  obtain ⟨o1, z1⟩ := ho
  first | refine wp_aload_n (pc := 0) dJx4a65c_elementData_915e3_0 rfl ?_ | refine wp_aload_nN (pc := 0) dJx4a65c_elementData_915e3_0 rfl ?_
  refine wp_getR (pc := 1) dJx4a65c_elementData_915e3_1 fl_ArrayList_9 (by assumption) rfl (by assumption) ?_
  refine wp_iload_n (pc := 4) dJx4a65c_elementData_915e3_4 rfl ?_
  refine wp_aaload (pc := 5) dJx4a65c_elementData_915e3_5 (by first | exact Or.inl (by assumption) | exact Or.inr (by assumption)) (in_I (by omega) (by rw [z1]; omega)) (by rw [tI_c, hi, Int.toNat_natCast]; exact hel k q hq) ?_
  first | refine wp_reta (pc := 6) dJx4a65c_elementData_915e3_6 trivial ?_ | refine wp_retn (pc := 6) dJx4a65c_elementData_915e3_6 trivial ?_
  exact ⟨rfl, rfl⟩
theorem s_get (hL : al_L n S R I x arr cap l) (i : Int32) (k q : Nat) (hi : i.toInt = k) (hq : l[k]? = some q) : wp 2 43 0 0 MJx4a65c_get_915e3 0 [(0, .ref x), (1, .int i)] [] (n, S, R, I) (fun v h => h = (n, S, R, I) ∧ v = some (.ref q)) := by
  have o0 := hL.1
  have hk : k < l.length := (List.getElem?_eq_some_iff.mp hq).1
  have hcap : cap ≤ 10000 := hL.2.2.2.2.1
  have hlen : l.length ≤ cap := hL.2.2.2.1
  refine wp_iload_n (pc := 0) dJx4a65c_get_915e3_0 rfl ?_
  first | refine wp_aload_n (pc := 1) dJx4a65c_get_915e3_1 rfl ?_ | refine wp_aload_nN (pc := 1) dJx4a65c_get_915e3_1 rfl ?_
  refine wp_getI (pc := 2) dJx4a65c_get_915e3_2 fl_ArrayList_48 (by assumption) rfl ?_
  refine cv_ArrayList_118 (pc := 5) (s_chk i _ (by omega) (by rw [hL.2.2.1, tI_n (by omega)]; omega)) rfl dJx4a65c_get_915e3_5 ⟨by decide, by decide, Nat.zero_le _, Nat.zero_le _⟩ (Nat.le_of_ble_eq_true rfl) (fun v h hp => ?_)
  obtain ⟨rfl, rfl⟩ := hp
  refine wp_pop (pc := 8) dJx4a65c_get_915e3_8 rfl ?_
  first | refine wp_aload_n (pc := 9) dJx4a65c_get_915e3_9 rfl ?_ | refine wp_aload_nN (pc := 9) dJx4a65c_get_915e3_9 rfl ?_
  refine wp_iload_n (pc := 10) dJx4a65c_get_915e3_10 rfl ?_
  refine cv_ArrayList_123 (pc := 11) (s_elem hL i k q hi hq) rfl dJx4a65c_get_915e3_11 (by assumption) ⟨by decide, by decide, Nat.zero_le _, Nat.zero_le _⟩ (Nat.le_of_ble_eq_true rfl) (fun v h hp => ?_)
  obtain ⟨rfl, rfl⟩ := hp
  first | refine wp_reta (pc := 14) dJx4a65c_get_915e3_14 trivial ?_ | refine wp_retn (pc := 14) dJx4a65c_get_915e3_14 trivial ?_
  exact ⟨rfl, rfl⟩
theorem s_newLength (a b c : Nat) (h : a + b + c < 1000000) (hb : 0 < b) : wp 1 23 0 0 MJ8_newLength_cabcc 0 [(0, .int (nI a)), (1, .int (nI b)), (2, .int (nI c))] [] (n, S, R, I) (fun v h => h = (n, S, R, I) ∧ v = some (.int (nI (a + max b c)))) := by
  have e1 : (if nI b < nI c then nI c else nI b) = nI (max b c) := by
    by_cases hh : nI b < nI c
    · rw [if_pos hh]
      have := Int32.lt_iff_toInt_lt.mp hh
      rw [tI_n (by omega), tI_n (by omega)] at this
      congr 1
      omega
    · rw [if_neg hh]
      have := Int.not_lt.mp (fun z => hh (Int32.lt_iff_toInt_lt.mpr z))
      rw [tI_n (by omega), tI_n (by omega)] at this
      congr 1
      omega
  have e2 : nI a + nI (max b c) = nI (a + max b c) := nI_add _ _
  have e3 : (nI (a + max b c)).toInt = ((a + max b c : Nat) : Int) := tI_n (by omega)
  refine wp_iload_n (pc := 0) dJ8_newLength_cabcc_0 rfl ?_
  refine wp_iload_n (pc := 1) dJ8_newLength_cabcc_1 rfl ?_
  refine wp_iload_n (pc := 2) dJ8_newLength_cabcc_2 rfl ?_
  refine wp_max (pc := 3) dJ8_newLength_cabcc_3 ml_ArraysSupport_194 (by decide) (Nat.le_of_ble_eq_true rfl) ?_
  rw [e1]
  refine wp_iadd (pc := 6) dJ8_newLength_cabcc_6 ?_
  rw [e2]
  refine wp_istore_n (pc := 7) dJ8_newLength_cabcc_7 (by decide) rfl ?_
  refine wp_iconst (pc := 8) (v := 0) dJ8_newLength_cabcc_8 (by decide) ?_
  refine wp_iload_n (pc := 9) dJ8_newLength_cabcc_9 rfl ?_
  refine wp_icmp_ge (pc := 10) (tgt := 21) dJ8_newLength_cabcc_10 (by decide) (fun hc => ?_) (fun hc => ?_)
  · rw [e3, tl_0] at hc; omega
  · skip
    refine wp_iload_n (pc := 13) dJ8_newLength_cabcc_13 rfl ?_
    refine wp_ldc (pc := 14) (v := 2147483639) dJ8_newLength_cabcc_14 cn_ArraysSupport_200 ?_
    refine wp_icmp_gt (pc := 16) (tgt := 21) dJ8_newLength_cabcc_16 (by decide) (fun hc => ?_) (fun hc => ?_)
    · rw [e3, show (2147483639 : Int32).toInt = 2147483639 by decide +kernel] at hc; omega
    · skip
      refine wp_iload_n (pc := 19) dJ8_newLength_cabcc_19 rfl ?_
      refine wp_ret (pc := 20) dJ8_newLength_cabcc_20 rfl (by first | trivial | exact Or.inl rfl | exact Or.inr rfl | assumption) ?_
      exact ⟨rfl, rfl⟩
/-- Arrays.copyOf of a full row of files -/
theorem s_copyOf3 (hA : ab_ok n S arr 12) (hz : (S arr).2 = cap) (hcap : cap ≤ 10000) (hel : ∀ i q, i < cap → R arr i = some q → ab_ok n S q 6) (N : Nat) (hN : cap ≤ N) (hN2 : N ≤ 100000) : wp 1 40 1 N MJ7_copyOf_6403c 0 [(0, .ref arr), (1, .int (nI N)), (2, .ref 1)] [] (n, S, R, I) (fun v h => v = some (.ref n) ∧ ∃ R', h = (n + 1, ab_nS S n 12 N, R', ab_nI I n) ∧ (∀ i, i < cap → R' n i = R arr i) ∧ ∀ j, j < n → R' j = R j) := by
  have hA2 : ab_ok (n + 1) (ab_nS S n 12 N) arr 12 := hA.new
  have h3 : 3 ≤ n := Nat.le_trans hA.1 (Nat.le_of_lt hA.2.1)
  have hB : ab_ok (n + 1) (ab_nS S n 12 N) n 12 := ⟨h3, by omega, by rw [ab_nS_at]⟩
  have ea : ab_nS S n 12 N arr = S arr := ab_nS_ne S 12 N hA.2.1
  have er : ab_nR R n arr = R arr := ab_nR_ne R hA.2.1
  have e1 : (if nI N < Int32.ofNat (ab_nS S n 12 N arr).2 then nI N else Int32.ofNat (ab_nS S n 12 N arr).2) = nI cap := by
    rw [ea, hz, if_neg]
    · rfl
    · intro q
      have := Int32.lt_iff_toInt_lt.mp q
      rw [tI_n (by omega), tI_o (by omega)] at this
      omega
  have ec : (nI cap).toNatClampNeg = cap := nI_c (by omega)
  have ecz : (0 : Int32).toNatClampNeg = 0 := rfl
  first | refine wp_aload_n (pc := 0) dJ7_copyOf_6403c_0 rfl ?_ | refine wp_aload_nN (pc := 0) dJ7_copyOf_6403c_0 rfl ?_
  refine wp_ldcM (pc := 1) dJ7_copyOf_6403c_1 cl_Arrays_110 ?_
  refine wp_acmpne_s (pc := 3) (tgt := 13) dJ7_copyOf_6403c_3 (by decide) ?_
  refine wp_iload_n (pc := 6) dJ7_copyOf_6403c_6 rfl ?_
  refine wp_anewO (pc := 7) dJ7_copyOf_6403c_7 cl_Arrays_2 (nI_pos (by omega)) (nI_c (by omega)) (by omega) (Nat.le_refl 1) (Nat.le_refl N) ?_
  refine wp_goto (pc := 10) (tgt := 24) dJ7_copyOf_6403c_10 (by decide) ?_
  first | refine wp_astore_n (pc := 24) dJ7_copyOf_6403c_24 (by decide) rfl ?_ | refine wp_astore_nN (pc := 24) dJ7_copyOf_6403c_24 (by decide) rfl ?_
  first | refine wp_aload_n (pc := 25) dJ7_copyOf_6403c_25 rfl ?_ | refine wp_aload_nN (pc := 25) dJ7_copyOf_6403c_25 rfl ?_
  refine wp_iconst (pc := 26) (v := 0) dJ7_copyOf_6403c_26 (by decide) ?_
  first | refine wp_aload_n (pc := 27) dJ7_copyOf_6403c_27 rfl ?_ | refine wp_aload_nN (pc := 27) dJ7_copyOf_6403c_27 rfl ?_
  refine wp_iconst (pc := 28) (v := 0) dJ7_copyOf_6403c_28 (by decide) ?_
  first | refine wp_aload_n (pc := 29) dJ7_copyOf_6403c_29 rfl ?_ | refine wp_aload_nN (pc := 29) dJ7_copyOf_6403c_29 rfl ?_
  first | refine wp_alen (pc := 30) dJ7_copyOf_6403c_30 (Or.inl (by assumption)) ?_ | refine wp_alen (pc := 30) dJ7_copyOf_6403c_30 (Or.inr (Or.inl (by assumption))) ?_ | refine wp_alen (pc := 30) dJ7_copyOf_6403c_30 (Or.inr (Or.inr (Or.inl (by assumption)))) ?_ | refine wp_alen (pc := 30) dJ7_copyOf_6403c_30 (Or.inr (Or.inr (Or.inr (by assumption)))) ?_
  refine wp_iload_n (pc := 31) dJ7_copyOf_6403c_31 rfl ?_
  refine wp_min (pc := 32) dJ7_copyOf_6403c_32 ml_Arrays_304 (by decide) (Nat.le_of_ble_eq_true rfl) ?_
  rw [e1]
  refine wp_copy (pc := 35) dJ7_copyOf_6403c_35 ml_Arrays_150 nt_arraycopy sm_arraycopy ini_System hA2 hB (by decide) (by decide) (nI_pos (by omega)) (by rw [ec, ecz, ea, hz]; omega) (by rw [ec, ecz, ab_nS_at]; show 0 + cap ≤ N; omega) (fun i hi y hy => ?_) (by decide) (Nat.le_of_ble_eq_true rfl) ?_
  · rw [ec] at hi
    rw [ecz, Nat.zero_add, er] at hy
    exact (hel i y hi hy).new
  first | refine wp_aload_n (pc := 38) dJ7_copyOf_6403c_38 rfl ?_ | refine wp_aload_nN (pc := 38) dJ7_copyOf_6403c_38 rfl ?_
  first | refine wp_reta (pc := 39) dJ7_copyOf_6403c_39 trivial ?_ | refine wp_retn (pc := 39) dJ7_copyOf_6403c_39 trivial ?_
  refine ⟨rfl, _, rfl, fun i hi => ?_, fun j hj => ?_⟩
  · simp [va_up, va_cpy, ec, ecz, hi, Nat.ne_of_lt hA.2.1]
  · simp [va_up, Nat.ne_of_lt hj]
theorem s_copyOf (hA : ab_ok n S arr 12) (hz : (S arr).2 = cap) (hcap : cap ≤ 10000) (hel : ∀ i q, i < cap → R arr i = some q → ab_ok n S q 6) (N : Nat) (hN : cap ≤ N) (hN2 : N ≤ 100000) : wp 2 63 1 N MJ7_copyOf_1904c 0 [(0, .ref arr), (1, .int (nI N))] [] (n, S, R, I) (fun v h => v = some (.ref n) ∧ ∃ R', h = (n + 1, ab_nS S n 12 N, R', ab_nI I n) ∧ (∀ i, i < cap → R' n i = R arr i) ∧ ∀ j, j < n → R' j = R j) := by
  first | refine wp_aload_n (pc := 0) dJ7_copyOf_1904c_0 rfl ?_ | refine wp_aload_nN (pc := 0) dJ7_copyOf_1904c_0 rfl ?_
  refine wp_iload_n (pc := 1) dJ7_copyOf_1904c_1 rfl ?_
  first | refine wp_aload_n (pc := 2) dJ7_copyOf_1904c_2 rfl ?_ | refine wp_aload_nN (pc := 2) dJ7_copyOf_1904c_2 rfl ?_
  refine wp_getC (pc := 3) dJ7_copyOf_1904c_3 (by assumption) ml_Arrays_86 se_getClass im_getClass nt_getClass (by decide) (Nat.le_of_ble_eq_true rfl) ?_
  refine cv_Arrays_300 (pc := 6) (s_copyOf3 hA hz hcap hel N hN hN2) rfl dJ7_copyOf_1904c_6 ⟨by decide, by decide, Nat.le_refl _, Nat.le_refl _⟩ (Nat.le_of_ble_eq_true rfl) (fun v h hp => ?_)
  obtain ⟨rfl, R', rfl, h1, h2⟩ := hp
  first | refine wp_reta (pc := 9) dJ7_copyOf_1904c_9 trivial ?_ | refine wp_retn (pc := 9) dJ7_copyOf_1904c_9 trivial ?_
  exact ⟨rfl, R', rfl, h1, h2⟩
theorem s_grow1 (hL : al_L n S R I x arr cap l) (hfull : l.length = cap) (h6 : cap ≤ 6000) : wp 3 84 1 (nc cap) MJx4a65c_grow_92f84 0 [(0, .ref x), (1, .int (nI (cap + 1)))] [] (n, S, R, I) (fun v h => v = some (.ref n) ∧ ∃ R', h = (n + 1, ab_nS S n 12 (nc cap), R', ab_nI I n) ∧ R' x 1 = some n ∧ (∀ i q, l[i]? = some q → R' n i = some q) ∧ (∀ j, j < n → j ≠ x → R' j = R j)) := by
  obtain ⟨o0, r1, i2, hlen, hcap, hc, hel, hok⟩ := hL
  have o0' : ∀ N, ab_ok (n + 1) (ab_nS S n 12 N) x 0 := fun N => o0.new
  have hxn : n ≠ x := Nat.ne_of_gt o0.2.1
  rcases hc with ⟨h0, h1⟩ | ⟨h10, hA, hz⟩
  · subst h0
    subst h1
    have hnil : l = [] := List.eq_nil_of_length_eq_zero hfull
    have e1 : (if (10 : Int32) < nI (0 + 1) then nI (0 + 1) else 10) = nI 10 := by decide +kernel
    have o0a := o0' 10
    first | refine wp_aload_n (pc := 0) dJx4a65c_grow_92f84_0 rfl ?_ | refine wp_aload_nN (pc := 0) dJx4a65c_grow_92f84_0 rfl ?_
    refine wp_getR (pc := 1) dJx4a65c_grow_92f84_1 fl_ArrayList_9 (by assumption) rfl (by assumption) ?_
    refine wp_alen0 (pc := 4) dJx4a65c_grow_92f84_4 ?_
    refine wp_istore_n (pc := 5) dJx4a65c_grow_92f84_5 (by decide) rfl ?_
    refine wp_iload_n (pc := 6) dJx4a65c_grow_92f84_6 rfl ?_
    refine wp_if_gt (pc := 7) (tgt := 20) dJx4a65c_grow_92f84_7 (by decide) (fun hc => ?_) (fun hc => ?_)
    · exact absurd hc (by decide)
    · skip
      first | refine wp_aload_n (pc := 10) dJx4a65c_grow_92f84_10 rfl ?_ | refine wp_aload_nN (pc := 10) dJx4a65c_grow_92f84_10 rfl ?_
      refine wp_getR (pc := 11) dJx4a65c_grow_92f84_11 fl_ArrayList_9 (by assumption) rfl (by assumption) ?_
      refine wp_gets (pc := 14) dJx4a65c_grow_92f84_14 fl_static ?_
      refine wp_acmpeq_s (pc := 17) (tgt := 45) dJx4a65c_grow_92f84_17 (by decide) ?_
      first | refine wp_aload_n (pc := 45) dJx4a65c_grow_92f84_45 rfl ?_ | refine wp_aload_nN (pc := 45) dJx4a65c_grow_92f84_45 rfl ?_
      refine wp_bipush (pc := 46) (v := 10) dJx4a65c_grow_92f84_46 (by decide) ?_
      refine wp_iload_n (pc := 48) dJx4a65c_grow_92f84_48 rfl ?_
      refine wp_max (pc := 49) dJx4a65c_grow_92f84_49 ml_ArrayList_79 (by decide) (Nat.le_of_ble_eq_true rfl) ?_
      rw [e1]
      refine wp_anewO (pc := 52) (N := 10) dJx4a65c_grow_92f84_52 cl_ArrayList_7 (by decide) (by decide +kernel) (by omega) (Nat.le_refl 1) (Nat.le_refl _) ?_
      refine wp_dup_x1 (pc := 55) dJx4a65c_grow_92f84_55 rfl rfl ?_
      refine wp_putR (pc := 56) dJx4a65c_grow_92f84_56 fl_ArrayList_9 (by assumption) rfl (Or.inl rfl) ?_
      first | refine wp_reta (pc := 59) dJx4a65c_grow_92f84_59 trivial ?_ | refine wp_retn (pc := 59) dJx4a65c_grow_92f84_59 trivial ?_
      refine ⟨rfl, _, rfl, by rw [ab_u2_s], fun i q hq => by rw [hnil] at hq; simp at hq, fun j hj hjx => ?_⟩
      rw [ab_u2_r _ _ hjx, ab_nR_ne R hj]
  · have hnc : nc cap = cap + cap / 2 := by unfold nc; rw [if_neg (by omega)]
    have e1 : nI (cap + 1) - Int32.ofNat (S arr).2 = nI 1 := by
      rw [hz]
      exact (pk_sub (by omega)).trans (by congr 1; omega)
    have e2 : (Int32.ofNat (S arr).2) >>> ((1 : Int32) &&& 31) = nI (cap / 2) := by
      rw [hz]
      exact pk_shrN (by omega) ((1 : Int32) &&& 31) 1 (by decide +kernel)
    have e3 : Int32.ofNat (S arr).2 = nI cap := by rw [hz]; rfl
    have e4 : cap + max 1 (cap / 2) = nc cap := by rw [hnc]; omega
    have o0a := o0' (nc cap)
    first | refine wp_aload_n (pc := 0) dJx4a65c_grow_92f84_0 rfl ?_ | refine wp_aload_nN (pc := 0) dJx4a65c_grow_92f84_0 rfl ?_
    refine wp_getR (pc := 1) dJx4a65c_grow_92f84_1 fl_ArrayList_9 (by assumption) rfl (by assumption) ?_
    first | refine wp_alen (pc := 4) dJx4a65c_grow_92f84_4 (Or.inl (by assumption)) ?_ | refine wp_alen (pc := 4) dJx4a65c_grow_92f84_4 (Or.inr (Or.inl (by assumption))) ?_ | refine wp_alen (pc := 4) dJx4a65c_grow_92f84_4 (Or.inr (Or.inr (Or.inl (by assumption)))) ?_ | refine wp_alen (pc := 4) dJx4a65c_grow_92f84_4 (Or.inr (Or.inr (Or.inr (by assumption)))) ?_
    refine wp_istore_n (pc := 5) dJx4a65c_grow_92f84_5 (by decide) rfl ?_
    refine wp_iload_n (pc := 6) dJx4a65c_grow_92f84_6 rfl ?_
    refine wp_if_gt (pc := 7) (tgt := 20) dJx4a65c_grow_92f84_7 (by decide) (fun hc => ?_) (fun hc => ?_)
    · skip
      refine wp_iload_n (pc := 20) dJx4a65c_grow_92f84_20 rfl ?_
      refine wp_iload_n (pc := 21) dJx4a65c_grow_92f84_21 rfl ?_
      refine wp_iload_n (pc := 22) dJx4a65c_grow_92f84_22 rfl ?_
      refine wp_isub (pc := 23) dJx4a65c_grow_92f84_23 ?_
      rw [e1]
      refine wp_iload_n (pc := 24) dJx4a65c_grow_92f84_24 rfl ?_
      refine wp_iconst (pc := 25) (v := 1) dJx4a65c_grow_92f84_25 (by decide) ?_
      refine wp_ishr (pc := 26) dJx4a65c_grow_92f84_26 ?_
      rw [e2, e3]
      refine cv_ArrayList_73 (pc := 27) (s_newLength cap 1 (cap / 2) (by omega) (by omega)) rfl dJx4a65c_grow_92f84_27 ⟨by decide, by decide, Nat.zero_le _, Nat.zero_le _⟩ (Nat.le_of_ble_eq_true rfl) (fun v h hp => ?_)
      obtain ⟨rfl, rfl⟩ := hp
      rw [e4]
      refine wp_istore_n (pc := 30) dJx4a65c_grow_92f84_30 (by decide) rfl ?_
      first | refine wp_aload_n (pc := 31) dJx4a65c_grow_92f84_31 rfl ?_ | refine wp_aload_nN (pc := 31) dJx4a65c_grow_92f84_31 rfl ?_
      first | refine wp_aload_n (pc := 32) dJx4a65c_grow_92f84_32 rfl ?_ | refine wp_aload_nN (pc := 32) dJx4a65c_grow_92f84_32 rfl ?_
      refine wp_getR (pc := 33) dJx4a65c_grow_92f84_33 fl_ArrayList_9 (by assumption) rfl (by assumption) ?_
      refine wp_iload_n (pc := 36) dJx4a65c_grow_92f84_36 rfl ?_
      refine cv_ArrayList_66 (pc := 37) (s_copyOf hA hz hcap (fun i q hi hq => by
        obtain ⟨q', hq'⟩ : ∃ q', l[i]? = some q' := ⟨_, List.getElem?_eq_getElem (by omega)⟩
        have := hel i q' hq'
        rw [hq] at this
        cases this
        exact hok q (List.mem_of_getElem? hq')) (nc cap) (by omega) (by omega)) rfl dJx4a65c_grow_92f84_37 ⟨by decide, by decide, Nat.le_refl _, Nat.le_refl _⟩ (Nat.le_of_ble_eq_true rfl) (fun v h hp => ?_)
      obtain ⟨rfl, R', rfl, h1, h2⟩ := hp
      refine wp_dup_x1 (pc := 40) dJx4a65c_grow_92f84_40 rfl rfl ?_
      refine wp_putR (pc := 41) dJx4a65c_grow_92f84_41 fl_ArrayList_9 (by assumption) rfl (Or.inl rfl) ?_
      first | refine wp_reta (pc := 44) dJx4a65c_grow_92f84_44 trivial ?_ | refine wp_retn (pc := 44) dJx4a65c_grow_92f84_44 trivial ?_
      refine ⟨rfl, _, rfl, by rw [ab_u2_s], fun i q hq => ?_, fun j hj hjx => ?_⟩
      · rw [ab_u2_r _ _ hxn, h1 i (by have := (List.getElem?_eq_some_iff.mp hq).1; omega)]
        exact hel i q hq
      · rw [ab_u2_r _ _ hjx]
        exact h2 j hj
    · rw [tI_o (by omega), hz] at hc; omega
theorem s_grow (hL : al_L n S R I x arr cap l) (hfull : l.length = cap) (h6 : cap ≤ 6000) : wp 4 107 1 (nc cap) MJx4a65c_grow_d5877 0 [(0, .ref x)] [] (n, S, R, I) (fun v h => v = some (.ref n) ∧ ∃ R', h = (n + 1, ab_nS S n 12 (nc cap), R', ab_nI I n) ∧ R' x 1 = some n ∧ (∀ i q, l[i]? = some q → R' n i = some q) ∧ (∀ j, j < n → j ≠ x → R' j = R j)) := by
  have o0 := hL.1
  have e1 : I x 2 + 1 = nI (cap + 1) := by rw [hL.2.2.1, hfull]; exact nI_1 cap
  first | refine wp_aload_n (pc := 0) dJx4a65c_grow_d5877_0 rfl ?_ | refine wp_aload_nN (pc := 0) dJx4a65c_grow_d5877_0 rfl ?_
  first | refine wp_aload_n (pc := 1) dJx4a65c_grow_d5877_1 rfl ?_ | refine wp_aload_nN (pc := 1) dJx4a65c_grow_d5877_1 rfl ?_
  refine wp_getI (pc := 2) dJx4a65c_grow_d5877_2 fl_ArrayList_48 (by assumption) rfl ?_
  refine wp_iconst (pc := 5) (v := 1) dJx4a65c_grow_d5877_5 (by decide) ?_
  refine wp_iadd (pc := 6) dJx4a65c_grow_d5877_6 ?_
  rw [e1]
  refine cv_ArrayList_69 (pc := 7) (s_grow1 hL hfull h6) rfl dJx4a65c_grow_d5877_7 (by assumption) ⟨by decide, by decide, Nat.le_refl _, Nat.le_refl _⟩ (Nat.le_of_ble_eq_true rfl) (fun v h hp => ?_)
  obtain ⟨rfl, R', rfl, h1, h2, h3⟩ := hp
  first | refine wp_reta (pc := 10) dJx4a65c_grow_d5877_10 trivial ?_ | refine wp_retn (pc := 10) dJx4a65c_grow_d5877_10 trivial ?_
  exact ⟨rfl, R', rfl, h1, h2, h3⟩
theorem s_rcfa (hL : al_L n S R I x arr cap l) (i : Int32) (h0 : 0 ≤ i.toInt) (h1 : i.toInt ≤ l.length) : wp 0 0 0 0 MJx4a65c_rangeCheckForAdd_d00df 0 [(0, .ref x), (1, .int i)] [] (n, S, R, I) (fun v h => v = none ∧ h = (n, S, R, I)) := by
  have o0 := hL.1
  have e0 : (I x 2).toInt = l.length := by have := hL.2.2.2.1; have := hL.2.2.2.2.1; rw [hL.2.2.1, tI_n (by omega)]
  refine wp_iload_n (pc := 0) dJx4a65c_rangeCheckForAdd_d00df_0 rfl ?_
  first | refine wp_aload_n (pc := 1) dJx4a65c_rangeCheckForAdd_d00df_1 rfl ?_ | refine wp_aload_nN (pc := 1) dJx4a65c_rangeCheckForAdd_d00df_1 rfl ?_
  refine wp_getI (pc := 2) dJx4a65c_rangeCheckForAdd_d00df_2 fl_ArrayList_48 (by assumption) rfl ?_
  refine wp_icmp_gt (pc := 5) (tgt := 12) dJx4a65c_rangeCheckForAdd_d00df_5 (by decide) (fun hc => ?_) (fun hc => ?_)
  · omega
  · skip
    refine wp_iload_n (pc := 8) dJx4a65c_rangeCheckForAdd_d00df_8 rfl ?_
    refine wp_if_ge (pc := 9) (tgt := 25) dJx4a65c_rangeCheckForAdd_d00df_9 (by decide) (fun hc => ?_) (fun hc => ?_)
    · skip
      refine wp_retv (pc := 25) dJx4a65c_rangeCheckForAdd_d00df_25 rfl ?_
      exact ⟨rfl, rfl⟩
    · omega
end LST
