/-! install -/
section IN2
variable {n : Nat} {S : ab_SH} {R : ab_RR} {I : ab_II} {A : AC} {P : Nat → List Nat} {FS : Nat → List FA}
theorem s_end_LW (hX : Fx n S R) (h : LW n S R I A P FS) : wp 2 43 0 0 MX2_end 0 [(0, .ref 27)] [] (n, S, R, I) (fun v h => v = none ∧ ∃ R' I', h = (n, S, R', I') ∧ ab_ex n S R n S R' ∧ LW n S R' I' A (va_up P 5 []) (va_up FS 5 []) ∧ (∀ j, j ∉ [27, 28, 33, 38] → I' j = I j) ∧ I' 27 0 = 0 ∧ I' 27 9 = 0 ∧ (∀ k, k ≠ 0 → k ≠ 9 → I' 27 k = I 27 k) ∧ I' 28 3 = 0 ∧ I' 33 3 = 0) := by
  have hL := (h.1 5 (by decide)).1
  refine wp_post (fun v hh hp => ?_) (s_X2_end hX hL)
  obtain ⟨rfl, R', I', rfl, g1, g2, g3⟩ := hp
  have hI : ∀ j, j ∉ [27, 28, 33, 38] → I' j = I j := fun j hj => by
    simp only [List.mem_cons, List.not_mem_nil, or_false, not_or] at hj
    rw [g3 j (by omega), ab_u2_r _ _ (by omega), ab_u2_r _ _ (by omega), ab_u2_r _ _ (by omega), ab_u2_r _ _ (by omega)]
  have h2 : LW n S R (ab_u2 (ab_u2 (ab_u2 (ab_u2 I 27 0 0) 28 3 0) 27 9 0) 33 3 0) A P FS := h.keep (fun k hk => by have := xk_in hk; rw [ab_u2_r _ _ (by omega), ab_u2_r _ _ (by omega), ab_u2_r _ _ (by omega), ab_u2_r _ _ (by omega)]) (fun j hj => by rw [ab_u2_r _ _ (by omega), ab_u2_r _ _ (by omega), ab_u2_r _ _ (by omega), ab_u2_r _ _ (by omega)])
  obtain ⟨he, h3⟩ := h2.nil (k := 5) (by decide) (R' := R') (I' := I') g1 g2 (fun j hj => g3 j hj)
  refine ⟨rfl, R', I', rfl, he, h3, hI, ?_, ?_, fun k h0 h9 => ?_, ?_, ?_⟩
  · rw [g3 27 (by decide)]; rfl
  · rw [g3 27 (by decide)]; rfl
  · rw [g3 27 (by decide), ab_u2_r _ _ (by decide), ab_u2_n _ _ (Or.inr h9), ab_u2_r _ _ (by decide), ab_u2_n _ _ (Or.inr h0)]
  · rw [g3 28 (by decide)]; rfl
  · rw [g3 33 (by decide)]; rfl
theorem s_loseFL (hX : Fx n S R) {log : List En} (hl : log.length ≤ 24) (hr : rwL I 4 5 6 7 log) (k syn : Nat) (hk : k ≤ log.length) (hs : syn ≤ 24) (h1 : I 3 1 = nI syn) : wp 4 91 0 0 MX6_loseFirstLogged 0 [(0, .ref 3), (1, .int (nI k))] [] (n, S, R, I) (fun v h => v = none ∧ ∃ I', h = (n, S, R, I') ∧ ab_fr I I' [3, 4, 5, 6, 7] ∧ rwL I' 4 5 6 7 (log.drop k) ∧ I' 3 1 = nI (syn - k) ∧ ∀ j, j ≠ 1 → I' 3 j = I 3 j) := by
  obtain ⟨g, hg, hgl⟩ := hr
  have ek : (nI k).toInt = k := tI_n (by omega)
  have es : (nI syn).toInt = syn := tI_n (by omega)
  have e1 : (nI syn - nI k).toInt = (syn : Int) - k := by rw [tI_sub (by omega) (by omega), ek, es]
  have em : (if (0 : Int32) < nI syn - nI k then nI syn - nI k else 0) = nI (syn - k) := by
    by_cases h0 : (0 : Int32) < nI syn - nI k
    · rw [if_pos h0]
      have := Int32.lt_iff_toInt_lt.mp h0
      rw [tl_0, e1] at this
      exact tI_N (by rw [e1]; omega)
    · rw [if_neg h0]
      have h2 := Int.not_lt.mp (fun z => h0 (Int32.lt_iff_toInt_lt.mpr z))
      rw [tl_0, e1] at h2
      rw [show syn - k = 0 by omega]
      rfl
  first | refine wp_aload_n (pc := 0) dX6_loseFirstLogged_0 rfl ?_ | refine wp_aload_nN (pc := 0) dX6_loseFirstLogged_0 rfl ?_
  refine wp_getR (pc := 1) dX6_loseFirstLogged_1 fl_LevelStore_14 (by first | assumption | exact Fx.ok (by assumption) (by decide)) rfl (by first | assumption | exact Fx.ref (by assumption) rfl) ?_
  refine wp_iload_n (pc := 4) dX6_loseFirstLogged_4 rfl ?_
  refine cv_LevelStore_258 (pc := 5) (s_X4_loseFirst hX.log hg hl k hk) rfl dX6_loseFirstLogged_5 (by first | assumption | exact Fx.ok (by assumption) (by decide)) ⟨by decide, by decide, Nat.zero_le _, Nat.zero_le _⟩ (Nat.le_of_ble_eq_true rfl) (fun v h hp => ?_)
  obtain ⟨rfl, I1, g1, rfl, hf1, hr1, hrl1⟩ := hp
  first | refine wp_aload_n (pc := 8) dX6_loseFirstLogged_8 rfl ?_ | refine wp_aload_nN (pc := 8) dX6_loseFirstLogged_8 rfl ?_
  refine wp_iconst (pc := 9) (v := 0) dX6_loseFirstLogged_9 (by decide) ?_
  first | refine wp_aload_n (pc := 10) dX6_loseFirstLogged_10 rfl ?_ | refine wp_aload_nN (pc := 10) dX6_loseFirstLogged_10 rfl ?_
  refine wp_getI (pc := 11) dX6_loseFirstLogged_11 fl_LevelStore_70 (by first | assumption | exact Fx.ok (by assumption) (by decide)) rfl ?_
  refine wp_iload_n (pc := 14) dX6_loseFirstLogged_14 rfl ?_
  refine wp_isub (pc := 15) dX6_loseFirstLogged_15 ?_
  rw [hf1 3 (by simp), h1]
  refine wp_max (pc := 16) dX6_loseFirstLogged_16 ml_LevelStore_261 (by decide) (Nat.le_of_ble_eq_true rfl) ?_
  rw [em]
  refine wp_putI (pc := 19) dX6_loseFirstLogged_19 fl_LevelStore_70 (by first | assumption | exact Fx.ok (by assumption) (by decide)) rfl rfl (Or.inl rfl) ?_
  refine wp_retv (pc := 22) dX6_loseFirstLogged_22 rfl ?_
  refine ⟨rfl, _, rfl, ?_, ⟨g1, ?_, ?_⟩, ab_u2_s _ _ _ _, fun j hj => by rw [ab_u2_n _ _ (Or.inr hj), hf1 3 (by simp)]⟩
  · intro j hj
    simp only [List.mem_cons, List.not_mem_nil, or_false, not_or] at hj
    rw [ab_u2_r _ _ (by omega), hf1 j (by simp; omega)]
  · rw [List.length_drop]
    exact hr1
  · rw [List.length_drop, hrl1, hgl]
theorem s_inst_C (hX : Fx n S R) (h : LW n S R I A P FS) {log : List En} {syn tgt sz m : Nat} (htg : tgt ≤ 3) (hl : log.length ≤ 24) (hs : syn ≤ 24) (hr : rwL I 4 5 6 7 log) (h1 : I 3 1 = nI syn) (h27 : I 27 1 = nI tgt - 1) (h28 : I 28 3 = nI sz) (hsz : tgt = 0 → sz ≤ log.length) (post : ab_Po) (mc ms : Nat) (L : List (Nat × Value)) (hL : ab_sub L [(0, .ref 3), (1, .int (nI m))])
    (hpost : ∀ R' I', ab_ex n S R n S R' → LW n S R' I' A (va_up P 5 []) (va_up FS 5 []) → (∀ j, j ∉ [3, 4, 5, 6, 7, 27, 28, 33, 38] → I' j = I j) → rwL I' 4 5 6 7 (if tgt = 0 then log.drop sz else log) → I' 3 1 = nI (if tgt = 0 then syn - sz else syn) → (∀ j, j ≠ 1 → I' 3 j = I 3 j) → I' 27 0 = 0 → I' 27 9 = 0 → I' 28 3 = 0 → I' 33 3 = 0 → post (some (.int (nI m))) (n, S, R', I')) :
    wp 9 219 mc ms MX6_install 135 L [] (n, S, R, I) post := by
  refine wp_loc hL ?_
  have e27 : (I 27 1).toInt = (tgt : Int) - 1 := by
    have e : (nI tgt).toInt = tgt := tI_n (by omega)
    rw [h27, tI_sub (by rw [tl_1]; omega) (by rw [tl_1]; omega), tl_1, e]
  by_cases h0 : tgt = 0
  · rw [if_pos h0, if_pos h0] at hpost
    first | refine wp_aload_n (pc := 135) dX6_install_135 rfl ?_ | refine wp_aload_nN (pc := 135) dX6_install_135 rfl ?_
    refine wp_getR (pc := 136) dX6_install_136 fl_LevelStore_50 (by first | assumption | exact Fx.ok (by assumption) (by decide)) rfl (by first | assumption | exact Fx.ref (by assumption) rfl) ?_
    refine wp_getI (pc := 139) dX6_install_139 fl_LevelStore_189 (by first | assumption | exact Fx.ok (by assumption) (by decide)) rfl ?_
    refine wp_iconst (pc := 142) (v := -1) dX6_install_142 (by decide) ?_
    refine wp_icmp_ne (pc := 143) (tgt := 160) dX6_install_143 (by decide) (fun hc => ?_) (fun hc => ?_)
    · rw [tl_m1] at hc; omega
    · skip
      first | refine wp_aload_n (pc := 146) dX6_install_146 rfl ?_ | refine wp_aload_nN (pc := 146) dX6_install_146 rfl ?_
      first | refine wp_aload_n (pc := 147) dX6_install_147 rfl ?_ | refine wp_aload_nN (pc := 147) dX6_install_147 rfl ?_
      refine wp_getR (pc := 148) dX6_install_148 fl_LevelStore_50 (by first | assumption | exact Fx.ok (by assumption) (by decide)) rfl (by first | assumption | exact Fx.ref (by assumption) rfl) ?_
      refine wp_getR (pc := 151) dX6_install_151 fl_LevelStore_124 (by first | assumption | exact Fx.ok (by assumption) (by decide)) rfl (by first | assumption | exact Fx.ref (by assumption) rfl) ?_
      refine wp_getI (pc := 154) dX6_install_154 fl_LevelStore_66 (by first | assumption | exact Fx.ok (by assumption) (by decide)) rfl ?_
      rw [h28]
      refine cv_LevelStore_202 (pc := 157) (s_loseFL hX hl hr sz syn (hsz h0) hs h1) rfl dX6_install_157 (by first | assumption | exact Fx.ok (by assumption) (by decide)) ⟨by decide, by decide, Nat.zero_le _, Nat.zero_le _⟩ (Nat.le_of_ble_eq_true rfl) (fun v h hp => ?_)
      obtain ⟨rfl, I1, rfl, hf1, hr1, h31, h3k⟩ := hp
      have hLW1 : LW n S R I1 A P FS := h.keep (fun k hk => hf1 _ (by have := xk_in hk; simp; omega)) (fun j hj => hf1 j (by simp; omega))
      first | refine wp_aload_n (pc := 160) dX6_install_160 rfl ?_ | refine wp_aload_nN (pc := 160) dX6_install_160 rfl ?_
      refine wp_getR (pc := 161) dX6_install_161 fl_LevelStore_50 (by first | assumption | exact Fx.ok (by assumption) (by decide)) rfl (by first | assumption | exact Fx.ref (by assumption) rfl) ?_
      refine cv_LevelStore_205 (pc := 164) (s_end_LW hX hLW1) rfl dX6_install_164 (by first | assumption | exact Fx.ok (by assumption) (by decide)) ⟨by decide, by decide, Nat.zero_le _, Nat.zero_le _⟩ (Nat.le_of_ble_eq_true rfl) (fun v h hp => ?_)
      obtain ⟨rfl, R2, I2, rfl, he2, hLW2, hI2, k1, k2, k3, k4, k5⟩ := hp
      refine wp_iload_n (pc := 167) dX6_install_167 rfl ?_
      refine wp_ret (pc := 168) dX6_install_168 rfl (by first | trivial | exact Or.inl rfl | exact Or.inr rfl | assumption) ?_
      refine hpost R2 I2 he2 hLW2 (fun j hj => ?_) (hr1.keep (hI2 _ (by decide)) (hI2 _ (by decide)) (hI2 _ (by decide)) (hI2 _ (by decide))) (by rw [hI2 3 (by decide)]; exact h31) (fun j hj => by rw [hI2 3 (by decide)]; exact h3k j hj) k1 k2 k4 k5
      simp only [List.mem_cons, List.not_mem_nil, or_false, not_or] at hj
      rw [hI2 j (by simp; omega), hf1 j (by simp; omega)]
  · rw [if_neg h0, if_neg h0] at hpost
    first | refine wp_aload_n (pc := 135) dX6_install_135 rfl ?_ | refine wp_aload_nN (pc := 135) dX6_install_135 rfl ?_
    refine wp_getR (pc := 136) dX6_install_136 fl_LevelStore_50 (by first | assumption | exact Fx.ok (by assumption) (by decide)) rfl (by first | assumption | exact Fx.ref (by assumption) rfl) ?_
    refine wp_getI (pc := 139) dX6_install_139 fl_LevelStore_189 (by first | assumption | exact Fx.ok (by assumption) (by decide)) rfl ?_
    refine wp_iconst (pc := 142) (v := -1) dX6_install_142 (by decide) ?_
    refine wp_icmp_ne (pc := 143) (tgt := 160) dX6_install_143 (by decide) (fun hc => ?_) (fun hc => ?_)
    · skip
      first | refine wp_aload_n (pc := 160) dX6_install_160 rfl ?_ | refine wp_aload_nN (pc := 160) dX6_install_160 rfl ?_
      refine wp_getR (pc := 161) dX6_install_161 fl_LevelStore_50 (by first | assumption | exact Fx.ok (by assumption) (by decide)) rfl (by first | assumption | exact Fx.ref (by assumption) rfl) ?_
      refine cv_LevelStore_205 (pc := 164) (s_end_LW hX h) rfl dX6_install_164 (by first | assumption | exact Fx.ok (by assumption) (by decide)) ⟨by decide, by decide, Nat.zero_le _, Nat.zero_le _⟩ (Nat.le_of_ble_eq_true rfl) (fun v h hp => ?_)
      obtain ⟨rfl, R2, I2, rfl, he2, hLW2, hI2, k1, k2, k3, k4, k5⟩ := hp
      refine wp_iload_n (pc := 167) dX6_install_167 rfl ?_
      refine wp_ret (pc := 168) dX6_install_168 rfl (by first | trivial | exact Or.inl rfl | exact Or.inr rfl | assumption) ?_
      refine hpost R2 I2 he2 hLW2 (fun j hj => ?_) (hr.keep (hI2 _ (by decide)) (hI2 _ (by decide)) (hI2 _ (by decide)) (hI2 _ (by decide))) (by rw [hI2 3 (by decide)]; exact h1) (fun j hj => by rw [hI2 3 (by decide)]) k1 k2 k4 k5
      simp only [List.mem_cons, List.not_mem_nil, or_false, not_or] at hj
      rw [hI2 j (by simp; omega)]
    · rw [tl_m1] at hc; omega
/-- where something of three parts stands -/
theorem mid_get {α : Type} (a b c : List α) (i : Nat) : (a ++ b ++ c)[i]? = if i < a.length then a[i]? else if i < a.length + b.length then b[i - a.length]? else c[i - a.length - b.length]? := by
  by_cases h1 : i < a.length
  · rw [if_pos h1, List.append_assoc, List.getElem?_append_left h1]
  · rw [if_neg h1, List.append_assoc, List.getElem?_append_right (by omega)]
    by_cases h2 : i < a.length + b.length
    · rw [if_pos h2, List.getElem?_append_left (by omega)]
    · rw [if_neg h2, List.getElem?_append_right (by omega)]
/-- the rows are apart again -/
theorem LW.full (h : LW n S R I A P FS) {P2 : Nat → List Nat} {t tf : Nat} (ht : t < 4) (hd : ∀ (i j a b q : Nat), i < 6 → j < 6 → (P2 i)[a]? = some q → (P2 j)[b]? = some q → i = j ∧ a = b) (htf : tf ≤ (P2 t).length) (hPt : P t = (P2 t).take tf ++ P2 5 ++ (P2 t).drop tf) (hP5 : P 5 = []) (hPo : ∀ j, j < 6 → j ≠ t → j ≠ 5 → P j = P2 j) : LF n S R I A P FS := by
  refine ⟨h.1, h.2, ?_⟩
  have hlt : ((P2 t).take tf).length = tf := by rw [List.length_take]; omega
  have back : ∀ (i a q : Nat), i < 6 → (P i)[a]? = some q → ∃ i' a', i' < 6 ∧ (P2 i')[a']? = some q ∧ (i ≠ t → i' = i ∧ a' = a) ∧ (i = t → (a < tf ∧ i' = t ∧ a' = a) ∨ (tf ≤ a ∧ a < tf + (P2 5).length ∧ i' = 5 ∧ a' = a - tf) ∨ (tf + (P2 5).length ≤ a ∧ i' = t ∧ a' = a - (P2 5).length)) := by
    intro i a q hi hq
    by_cases h1 : i = t
    · subst h1
      rw [hPt, mid_get, hlt] at hq
      by_cases c1 : a < tf
      · rw [if_pos c1, List.getElem?_take_of_lt c1] at hq
        exact ⟨i, a, hi, hq, fun z => absurd rfl z, fun _ => Or.inl ⟨c1, rfl, rfl⟩⟩
      · rw [if_neg c1] at hq
        by_cases c2 : a < tf + (P2 5).length
        · rw [if_pos c2] at hq
          exact ⟨5, a - tf, by decide, hq, fun z => absurd rfl z, fun _ => Or.inr (Or.inl ⟨by omega, c2, rfl, rfl⟩)⟩
        · rw [if_neg c2, List.getElem?_drop] at hq
          exact ⟨i, tf + (a - tf - (P2 5).length), hi, hq, fun z => absurd rfl z, fun _ => Or.inr (Or.inr ⟨by omega, rfl, by omega⟩)⟩
    · by_cases h5 : i = 5
      · subst h5
        rw [hP5] at hq
        cases hq
      · rw [hPo i hi h1 h5] at hq
        exact ⟨i, a, hi, hq, fun _ => ⟨rfl, rfl⟩, fun z => absurd z h1⟩
  intro i j a b q hi hj ha hb
  obtain ⟨i', a', hi', ha', e1, e2⟩ := back i a q hi ha
  obtain ⟨j', b', hj', hb', g1, g2⟩ := back j b q hj hb
  obtain ⟨k1, k2⟩ := hd i' j' a' b' q hi' hj' ha' hb'
  by_cases hit : i = t
  · by_cases hjt : j = t
    · have := e2 hit
      have := g2 hjt
      omega
    · have := e2 hit
      have := g1 hjt
      have h5 : j ≠ 5 := fun z => by rw [z, hP5] at hb; cases hb
      omega
  · have h5 : i ≠ 5 := fun z => by rw [z, hP5] at ha; cases ha
    by_cases hjt : j = t
    · have := e1 hit
      have := g2 hjt
      omega
    · have := e1 hit
      have := g1 hjt
      omega
theorem TK.mem {T : Nat → Int32} {FS FS' : Nat → List FA} (h : TK T FS) (h1 : ∀ F, (∃ k, lvk k ∧ F ∈ FS' k) ↔ (∃ k, lvk k ∧ F ∈ FS k)) : TK T FS' := by
  refine ⟨h.1, fun j hj => (h.2 j hj).trans ⟨?_, ?_⟩⟩
  · rintro ⟨k, a, F, hk, hF, h3⟩
    obtain ⟨k', hk', hm⟩ := (h1 F).mpr ⟨k, hk, List.mem_of_getElem? hF⟩
    obtain ⟨a', ha'⟩ := List.mem_iff_getElem?.mp hm
    exact ⟨k', a', F, hk', ha', h3⟩
  · rintro ⟨k, a, F, hk, hF, h3⟩
    obtain ⟨k', hk', hm⟩ := (h1 F).mp ⟨k, hk, List.mem_of_getElem? hF⟩
    obtain ⟨a', ha'⟩ := List.mem_iff_getElem?.mp hm
    exact ⟨k', a', F, hk', ha', h3⟩
end IN2
