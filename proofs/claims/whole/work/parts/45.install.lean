/-! TO INSTALL: the new files stand in two rows for a while -/
def LW (n : Nat) (S : ab_SH) (R : ab_RR) (I : ab_II) (A : AC) (P : Nat → List Nat) (FS : Nat → List FA) : Prop :=
  (∀ k, k < 6 → al_L n S R I (xk k) (A k).1 (A k).2 (P k) ∧ fl_I n S R I (P k) (FS k) ∧ (A k).2 ≤ 500) ∧ (∀ i j, i < 6 → j < 6 → i ≠ j → (A i).1 ≠ 0 → (A i).1 ≠ (A j).1)
theorem insAt_mid (a b c : List Nat) (q : Nat) : insAt (a ++ b ++ c) (a.length + b.length) q = a ++ (b ++ [q]) ++ c := by
  unfold insAt
  rw [show a.length + b.length = (a ++ b).length by simp, List.take_left, List.drop_left]
  simp
theorem insF_mid (a b c : List FA) (q : FA) : insF (a ++ b ++ c) (a.length + b.length) q = a ++ (b ++ [q]) ++ c := by
  unfold insF
  rw [show a.length + b.length = (a ++ b).length by simp, List.take_left, List.drop_left]
  simp
theorem take_s {α : Type} {l : List α} {t : Nat} {q : α} (h : l[t]? = some q) : l.take (t + 1) = l.take t ++ [q] := by
  have hl := (List.getElem?_eq_some_iff.mp h).1
  rw [List.take_succ_eq_append_getElem hl]
  rw [List.getElem?_eq_getElem hl] at h
  cases h
  rfl
section INS
variable {n : Nat} {S : ab_SH} {R : ab_RR} {I : ab_II} {A : AC} {P : Nat → List Nat} {FS : Nat → List FA}
theorem LF.w (h : LF n S R I A P FS) : LW n S R I A P FS := ⟨h.1, h.2.1⟩
theorem LW.keep {I' : ab_II} (h : LW n S R I A P FS) (h1 : ∀ k, k < 6 → I' (xk k) = I (xk k)) (h2 : ∀ j, 66 ≤ j → I' j = I j) : LW n S R I' A P FS :=
  ⟨fun k hk => ⟨(h.1 k hk).1.keepI (h1 k hk), (h.1 k hk).2.1.keep h2, (h.1 k hk).2.2⟩, h.2⟩
theorem s_insW (hX : Fx n S R) (h : LW n S R I A P FS) {k i q : Nat} {F : FA} (hk : k < 6) (hi : i ≤ (P k).length) (hl : (P k).length < 333) (hS : sf_S n S R q) (hI : sf_I I q F) :
    wp 6 151 (al_c (P k).length (A k).2) (al_s (P k).length (A k).2) MX1_insert 0 [(0, .ref (fk k)), (1, .int (nI i)), (2, .ref q)] [] (n, S, R, I) (fun v h => v = none ∧ ∃ n' S' R' I' A', h = (n', S', R', I') ∧ ab_ex n S R n' S' R' ∧ LW n' S' R' I' A' (va_up P k (insAt (P k) i q)) (va_up FS k (insF (FS k) i F)) ∧ (∀ j, j < n → j ≠ xk k → I' j = I j) ∧ (∀ j, j ≠ k → A' j = A j) ∧ al_c (P k).length (A k).2 + pC A' k ≤ pC A k ∧ al_s (P k).length (A k).2 + pS A' k ≤ pS A k) := by
  obtain ⟨hL, hFl, h9⟩ := h.1 k hk
  have hlen := hL.2.2.2.1
  have h66 := hX.1
  have hxk := xk_in hk
  have hc10 : (A k).2 = 0 ∨ 10 ≤ (A k).2 := hL.2.2.2.2.2.1.elim (fun z => Or.inl z.1) (fun z => Or.inr z.1)
  refine wp_post (fun v hh hp => ?_) (s_X1_insert (hX.fr hk) hL (by omega) (nI i) i q (tI_n (by omega)) hi hS.2.1)
  obtain ⟨rfl, n', S', R', I', arr', rfl, hL', he, hn', harr, hR, hI'⟩ := hp
  have hcap' : (if (P k).length = (A k).2 then nc (A k).2 else (A k).2) ≤ 500 ∧ (A k).2 ≤ (if (P k).length = (A k).2 then nc (A k).2 else (A k).2) := by
    split
    · have := nc_le (cap := (A k).2) (by omega) hc10
      omega
    · omega
  refine ⟨rfl, n', S', R', I', va_up A k (arr', if (P k).length = (A k).2 then nc (A k).2 else (A k).2), rfl, he, ⟨fun j hj => ?_, fun a b ha hb hab h0 => ?_⟩, hI', fun j hj => by simp [va_up, hj], ?_, ?_⟩
  · by_cases hjk : j = k
    · subst hjk
      simp only [va_up, if_true]
      refine ⟨hL', ⟨?_, fun a y G hy hG => ?_⟩, hcap'.1⟩
      · rw [insAt_len hi, insF]
        have := hFl.1
        simp
        omega
      · have hfi : i ≤ (FS j).length := by rw [← hFl.1]; exact hi
        rw [insAt_get hi] at hy
        rw [insF_get hfi] at hG
        by_cases h1 : a < i
        · rw [if_pos h1] at hy hG
          exact (hFl.ex he (fun z hz1 hz2 => hI' z hz2 (by omega))).2 a y G hy hG
        · rw [if_neg h1] at hy hG
          by_cases h2 : a = i
          · rw [if_pos h2] at hy hG
            cases hy
            cases hG
            have := hS.1
            have := hS.lt
            exact ⟨hS.ex he, hI.keep (fun z hz1 hz2 => hI' z (by omega) (by omega))⟩
          · rw [if_neg h2] at hy hG
            exact (hFl.ex he (fun z hz1 hz2 => hI' z hz2 (by omega))).2 (a - 1) y G hy hG
    · obtain ⟨gL, gF, g9⟩ := h.1 j hj
      have hxj := xk_in hj
      have hne : xk j ≠ xk k := fun e => hjk (xk_inj hj hk e)
      simp only [va_up, if_neg hjk]
      have hx1 : xk j ≠ (A k).1 := by
        rcases hL.2.2.2.2.2.1 with z | z
        · omega
        · exact ab_ok_ne gL.1 z.2.1 (by decide)
      refine ⟨gL.other he (hR _ (by omega) hne hx1) (fun h0 => ?_) (hI' _ (by omega) hne), gF.ex he (fun z hz1 hz2 => hI' z hz2 (by omega)), g9⟩
      have hA : ab_ok n S (A j).1 12 := by
        rcases gL.2.2.2.2.2.1 with z | z
        · exact absurd z.2 h0
        · exact z.2.1
      exact hR _ hA.2.1 (ab_ok_ne hA hL.1 (by decide)) (h.2 j k hj hk hjk h0)
  · have lt : ∀ j, j < 6 → (A j).1 < n := fun j hj => (h.1 j hj).1.arr_lt h66
    by_cases hak : a = k
    · subst hak
      have hbk : b ≠ a := fun e => hab e.symm
      simp only [va_up, if_true, if_neg hbk] at h0 ⊢
      rcases harr with rfl | harr
      · exact h.2 a b ha hb hab h0
      · have := lt b hb
        omega
    · simp only [va_up, if_neg hak] at h0 ⊢
      by_cases hbk : b = k
      · subst hbk
        simp only [if_true]
        rcases harr with rfl | harr
        · exact h.2 a b ha hb hab h0
        · have := lt a ha
          omega
      · simp only [if_neg hbk]
        exact h.2 a b ha hb hab h0
  · unfold pC al_c
    simp only [va_up, if_true]
    by_cases hf : (P k).length = (A k).2
    · rw [if_pos hf, if_pos hf]
      have := nc_le (cap := (A k).2) (by omega) hc10
      omega
    · rw [if_neg hf, if_neg hf]; omega
  · unfold pS al_s
    simp only [va_up, if_true]
    by_cases hf : (P k).length = (A k).2
    · rw [if_pos hf, if_pos hf]
      have := nc_le (cap := (A k).2) (by omega) hc10
      omega
    · rw [if_neg hf, if_neg hf]; omega
/-- one of the six becomes empty -/
theorem LW.nil (h : LW n S R I A P FS) {k : Nat} (hk : k < 6) {R' : ab_RR} {I' : ab_II} (hL' : al_L n S R' I' (xk k) (A k).1 (A k).2 []) (hR : ∀ j, j ≠ (A k).1 → R' j = R j) (hI : ∀ j, j ≠ xk k → I' j = I j) : ab_ex n S R n S R' ∧ LW n S R' I' A (va_up P k []) (va_up FS k []) := by
  obtain ⟨hL, hFl, h9⟩ := h.1 k hk
  have hxk := xk_in hk
  have hA12 : (A k).1 = 0 ∨ ab_ok n S (A k).1 12 := hL.2.2.2.2.2.1.elim (fun z => Or.inl z.2) (fun z => Or.inr z.2.1)
  have he : ab_ex n S R n S R' := ⟨Nat.le_refl _, fun _ _ => rfl, fun j h3 hj k0 k12 => by
    rcases hA12 with h0 | h0
    · exact hR j (by omega)
    · exact hR j (fun e => k12 (by rw [e]; exact h0.2.2))⟩
  refine ⟨he, fun j hj => ?_, h.2⟩
  by_cases hjk : j = k
  · subst hjk
    simp only [va_up, if_true]
    exact ⟨hL', ⟨rfl, fun i q F hq => by cases hq⟩, h9⟩
  · obtain ⟨gL, gF, g9⟩ := h.1 j hj
    have hxj := xk_in hj
    have hne : xk j ≠ xk k := fun e => hjk (xk_inj hj hk e)
    simp only [va_up, if_neg hjk]
    have hx1 : xk j ≠ (A k).1 := by
      rcases hA12 with z | z
      · omega
      · exact ab_ok_ne gL.1 z (by decide)
    exact ⟨gL.other he (hR _ hx1) (fun h0 => hR _ (h.2 j k hj hk hjk h0)) (hI _ hne), gF.ex he (fun z hz1 hz2 => hI z (by omega)), g9⟩
theorem s_inst_loop {t tf m : Nat} (ht : t < 4) (a c : List Nat) (fa fc : List FA) (hta : a.length = tf) (htfa : fa.length = tf) (ms5 : List Nat) (fs5 : List FA) (hm : ms5.length = m) (hfm : fs5.length = m) (hlen : a.length + c.length + m ≤ 332) (post : ab_Po) {n0 : Nat} {S0 : ab_SH} {R0 : ab_RR} {I0 : ab_II} {P0 : Nat → List Nat} {FS0 : Nat → List FA}
    (hpost : ∀ n S R I A P FS mc ms, ab_ex n0 S0 R0 n S R → Fx n S R → LW n S R I A P FS → P t = a ++ ms5 ++ c → FS t = fa ++ fs5 ++ fc → (∀ j, j ≠ t → P j = P0 j ∧ FS j = FS0 j) → (∀ j, j < 66 → j ≠ xk t → I j = I0 j) → ∀ L, ab_sub L [(0, .ref 3), (1, .int (nI m))] → wp 9 219 mc ms MX6_install 135 L [] (n, S, R, I) post) (hP5 : P0 5 = ms5) (hF5 : FS0 5 = fs5) :
    ∀ (d k : Nat) (y : Int32) (n : Nat) (S : ab_SH) (R : ab_RR) (I : ab_II) (A : AC) (P : Nat → List Nat) (FS : Nat → List FA) (mc ms : Nat) (L : List (Nat × Value)), m = k + d → y = nI k → ab_ex n0 S0 R0 n S R → Fx n S R → LW n S R I A P FS → P t = a ++ ms5.take k ++ c → FS t = fa ++ fs5.take k ++ fc → (∀ j, j ≠ t → P j = P0 j ∧ FS j = FS0 j) → (∀ j, j < 66 → j ≠ xk t → I j = I0 j) → I0 27 5 = nI tf → pC A t ≤ mc → pS A t ≤ ms → ab_sub L [(0, .ref 3), (1, .int (nI m)), (2, .ref (fk t)), (3, .int y)] →
    wp 9 219 mc ms MX6_install 96 L [] (n, S, R, I) post := by
  have hxt := xk_in (k := t) (by omega)
  have em : (nI m).toInt = m := tI_n (by omega)
  intro d
  induction d with
  | zero =>
    intro k y n S R I A P FS mc ms L hk hy he hX hLW hPt hFt hPo hI h5 hmc hms hL
    refine wp_loc hL ?_
    have ey : y.toInt = k := by rw [hy, tI_n (by omega)]
    refine wp_iload_n (pc := 96) dX6_install_96 rfl ?_
    refine wp_iload_n (pc := 97) dX6_install_97 rfl ?_
    refine wp_icmp_ge (pc := 98) (tgt := 135) dX6_install_98 (by decide) (fun hc => ?_) (fun hc => ?_)
    · skip
      exact hpost n S R I A P FS _ _ he hX hLW (by rw [hPt, List.take_of_length_le (by omega)]) (by rw [hFt, List.take_of_length_le (by omega)]) hPo hI _ ⟨rfl, rfl, trivial⟩
    · omega
  | succ d ih =>
    intro k y n S R I A P FS mc ms L hk hy he hX hLW hPt hFt hPo hI h5 hmc hms hL
    refine wp_loc hL ?_
    have ey : y.toInt = k := by rw [hy, tI_n (by omega)]
    have hL5 := (hLW.1 5 (by decide)).1
    have hF5' := (hLW.1 5 (by decide)).2.1
    have e5 := hPo 5 (by omega)
    rw [e5.1, hP5] at hL5 hF5'
    rw [e5.2, hF5] at hF5'
    obtain ⟨q, F, hq, hF, hS, hSI⟩ := fl_at hF5' (t := k) (by omega)
    have ofk : ab_ok n S (fk t) 2 := (hX.fr (k := t) (by omega)).1
    have hPtl : (P t).length = tf + k + c.length := by rw [hPt]; simp [hta]; omega
    have e275 : I 27 5 = nI tf := by rw [hI 27 (by decide) (by omega)]; exact h5
    have eadd : nI tf + y = nI (tf + k) := by rw [hy]; exact nI_add _ _
    have c10 := (hLW.1 t (by omega)).1.c10
    have hal := al_le (len := (P t).length) (cap := (A t).2) (by omega) c10
    have h66 := hX.1
    refine wp_iload_n (pc := 96) dX6_install_96 rfl ?_
    refine wp_iload_n (pc := 97) dX6_install_97 rfl ?_
    refine wp_icmp_ge (pc := 98) (tgt := 135) dX6_install_98 (by decide) (fun hc => ?_) (fun hc => ?_)
    · omega
    · skip
      first | refine wp_aload_n (pc := 101) dX6_install_101 rfl ?_ | refine wp_aload_nN (pc := 101) dX6_install_101 rfl ?_
      refine wp_ifnull_r (pc := 102) dX6_install_102 ?_
      first | refine wp_aload_n (pc := 105) dX6_install_105 rfl ?_ | refine wp_aload_nN (pc := 105) dX6_install_105 rfl ?_
      first | refine wp_aload_n (pc := 106) dX6_install_106 rfl ?_ | refine wp_aload_nN (pc := 106) dX6_install_106 rfl ?_
      refine wp_getR (pc := 107) dX6_install_107 fl_LevelStore_50 (by first | assumption | exact Fx.ok (by assumption) (by decide)) rfl (by first | assumption | exact Fx.ref (by assumption) rfl) ?_
      refine wp_getI (pc := 110) dX6_install_110 fl_LevelStore_118 (by first | assumption | exact Fx.ok (by assumption) (by decide)) rfl ?_
      refine wp_iload_n (pc := 113) dX6_install_113 rfl ?_
      rw [e275]
      refine wp_iadd (pc := 114) dX6_install_114 ?_
      rw [eadd]
      first | refine wp_aload_n (pc := 115) dX6_install_115 rfl ?_ | refine wp_aload_nN (pc := 115) dX6_install_115 rfl ?_
      refine wp_getR (pc := 116) dX6_install_116 fl_LevelStore_50 (by first | assumption | exact Fx.ok (by assumption) (by decide)) rfl (by first | assumption | exact Fx.ref (by assumption) rfl) ?_
      refine wp_getR (pc := 119) dX6_install_119 fl_LevelStore_186 (by first | assumption | exact Fx.ok (by assumption) (by decide)) rfl (by first | assumption | exact Fx.ref (by assumption) rfl) ?_
      refine wp_iload_n (pc := 122) dX6_install_122 rfl ?_
      refine cv_LevelStore_150 (pc := 123) (s_X1_at (hX.fr (k := 5) (by decide)) hL5 y) rfl dX6_install_123 (by first | assumption | exact Fx.ok (by assumption) (by decide)) ⟨by decide, by decide, Nat.zero_le _, Nat.zero_le _⟩ (Nat.le_of_ble_eq_true rfl) (fun v h hp => ?_)
      obtain ⟨rfl, rfl⟩ := hp
      rw [show atV ms5 y = .ref q by unfold atV; rw [if_pos ⟨by omega, by omega⟩, ey, Int.toNat_natCast, List.getD_eq_getElem?_getD, hq]; rfl]
      refine cv_LevelStore_199 (pc := 126) (s_insW hX hLW (k := t) (i := tf + k) (by omega) (by omega) (by omega) hS hSI) rfl dX6_install_126 (by first | assumption | exact Fx.ok (by assumption) (by decide)) ⟨by decide, by decide, by unfold pC at hmc; omega, by unfold pS at hms; omega⟩ (Nat.le_of_ble_eq_true rfl) (fun v h hp => ?_)
      obtain ⟨rfl, n1, S1, R1, I1, A1, rfl, he1, hLW1, hI1, hA1, hc1, hs1⟩ := hp
      refine wp_iinc (pc := 129) dX6_install_129 rfl (by decide) rfl ?_
      refine wp_goto (pc := 132) (tgt := 96) dX6_install_132 (by decide) ?_
      have et : a.length + (ms5.take k).length = tf + k := by rw [hta, List.length_take]; omega
      have etf : fa.length + (fs5.take k).length = tf + k := by rw [htfa, List.length_take]; omega
      refine ih (k + 1) _ n1 S1 R1 I1 A1 _ _ _ _ _ (by omega) (by rw [hy]; exact nI_i1 k) (he.tr he1) (hX.ex he1) hLW1 ?_ ?_ (fun j hj => ?_) (fun j hj hjn => ?_) h5 (by omega) (by omega) ⟨rfl, rfl, rfl, rfl, trivial⟩
      · rw [up_at, hPt, ← et, insAt_mid, take_s hq]
      · rw [up_at, hFt, ← etf, insF_mid, take_s hF]
      · rw [up_ne hj, up_ne hj]; exact hPo j hj
      · rw [hI1 j (by omega) hjn]; exact hI j hj hjn
end INS
