/-! THE SIX ROWS: to take out, to empty -/
section SIX
variable {n : Nat} {S : ab_SH} {R : ab_RR} {I : ab_II} {A : AC} {P : Nat → List Nat} {FS : Nat → List FA}
/-- one of the six becomes a part of itself -/
theorem LF.one (h : LF n S R I A P FS) {k : Nat} (hk : k < 6) {R' : ab_RR} {I' : ab_II} {l : List Nat} {fs : List FA} (hL' : al_L n S R' I' (xk k) (A k).1 (A k).2 l) (hR : ∀ j, j ≠ (A k).1 → R' j = R j) (hI : ∀ j, j ≠ xk k → I' j = I j) (hF : fl_I n S R I l fs)
    (hin : ∀ (c y : Nat), l[c]? = some y → ∃ c' : Nat, (P k)[c']? = some y) (hnd : ∀ (c d y : Nat), l[c]? = some y → l[d]? = some y → c = d) : ab_ex n S R n S R' ∧ LF n S R' I' A (va_up P k l) (va_up FS k fs) := by
  obtain ⟨hL, hFl, h9⟩ := h.1 k hk
  have hxk := xk_in hk
  have hA12 : (A k).1 = 0 ∨ ab_ok n S (A k).1 12 := hL.2.2.2.2.2.1.elim (fun z => Or.inl z.2) (fun z => Or.inr z.2.1)
  have he : ab_ex n S R n S R' := ⟨Nat.le_refl _, fun _ _ => rfl, fun j h3 hj k0 k12 => by
    rcases hA12 with h0 | h0
    · exact hR j (by omega)
    · exact hR j (fun e => k12 (by rw [e]; exact h0.2.2))⟩
  refine ⟨he, fun j hj => ?_, h.2.1, fun a b c d y ha hb hc hd => ?_⟩
  · by_cases hjk : j = k
    · subst hjk
      simp only [va_up, if_true]
      exact ⟨hL', hF.ex he (fun z hz1 hz2 => hI z (by omega)), h9⟩
    · obtain ⟨gL, gF, g9⟩ := h.1 j hj
      have hxj := xk_in hj
      have hne : xk j ≠ xk k := fun e => hjk (xk_inj hj hk e)
      simp only [va_up, if_neg hjk]
      have hx1 : xk j ≠ (A k).1 := by
        rcases hA12 with z | z
        · omega
        · exact ab_ok_ne gL.1 z (by decide)
      exact ⟨gL.other he (hR _ hx1) (fun h0 => hR _ (h.2.1 j k hj hk hjk h0)) (hI _ hne), gF.ex he (fun z hz1 hz2 => hI z (by omega)), g9⟩
  · by_cases hak : a = k
    · subst hak
      simp only [va_up, if_true] at hc
      by_cases hbk : b = a
      · subst hbk
        simp only [va_up, if_true] at hd
        exact ⟨rfl, hnd c d y hc hd⟩
      · simp only [va_up, if_neg hbk] at hd
        obtain ⟨c', hc'⟩ := hin c y hc
        exact absurd (h.2.2 _ _ _ _ _ ha hb hc' hd).1.symm hbk
    · simp only [va_up, if_neg hak] at hc
      by_cases hbk : b = k
      · subst hbk
        simp only [va_up, if_true] at hd
        obtain ⟨d', hd'⟩ := hin d y hd
        exact absurd (h.2.2 _ _ _ _ _ ha hb hc hd').1 hak
      · simp only [va_up, if_neg hbk] at hd
        exact h.2.2 _ _ _ _ _ ha hb hc hd
theorem fl_del {l : List Nat} {fs : List FA} {i : Nat} (h : fl_I n S R I l fs) (hi : i < l.length) : fl_I n S R I (delAt l i) (delF fs i) := by
  have hi2 : i < fs.length := by rw [← h.1]; exact hi
  refine ⟨?_, fun a y G hy hG => ?_⟩
  · rw [delAt_len hi]
    simp [delF]
    have := h.1
    omega
  · rw [delAt_get hi] at hy
    rw [delF_get hi2] at hG
    by_cases h1 : a < i
    · rw [if_pos h1] at hy hG
      exact h.2 a y G hy hG
    · rw [if_neg h1] at hy hG
      exact h.2 (a + 1) y G hy hG
theorem s_out (hX : Fx n S R) (h : LF n S R I A P FS) {k i q : Nat} {F : FA} (hk : k < 6) (hq : (P k)[i]? = some q) (hF : (FS k)[i]? = some F) :
    wp 3 86 0 0 MX1_takeOut 0 [(0, .ref (fk k)), (1, .int (nI i))] [] (n, S, R, I) (fun v h => v = some (.ref q) ∧ ∃ R' I', h = (n, S, R', I') ∧ ab_ex n S R n S R' ∧ LF n S R' I' A (va_up P k (delAt (P k) i)) (va_up FS k (delF (FS k) i)) ∧ (∀ j, j ≠ xk k → I' j = I j) ∧ sf_S n S R' q ∧ sf_I I' q F ∧ ∀ j, j < 6 → q ∉ (va_up P k (delAt (P k) i)) j) := by
  obtain ⟨hL, hFl, h9⟩ := h.1 k hk
  have hi := (List.getElem?_eq_some_iff.mp hq).1
  have hlen := hL.2.2.2.1
  have hxk := xk_in hk
  refine wp_post (fun v hh hp => ?_) (s_X1_takeOut (hX.fr hk) hL (nI i) i q (tI_n (by omega)) hq)
  obtain ⟨rfl, R', I', rfl, hL', hR, hI⟩ := hp
  obtain ⟨hS, hSI⟩ := hFl.2 i q F hq hF
  have back : ∀ (c y : Nat), (delAt (P k) i)[c]? = some y → (P k)[if c < i then c else c + 1]? = some y := fun c y hc => by
    rw [delAt_get hi] at hc
    by_cases h1 : c < i
    · rw [if_pos h1] at hc ⊢; exact hc
    · rw [if_neg h1] at hc ⊢; exact hc
  obtain ⟨he, hLF⟩ := h.one hk hL' hR hI (fl_del hFl hi) (fun c y hc => ⟨_, back c y hc⟩) (fun c d y hc hd => by
    have := (h.2.2 k k _ _ y hk hk (back c y hc) (back d y hd)).2
    by_cases h1 : c < i
    · rw [if_pos h1] at this
      by_cases h2 : d < i
      · rw [if_pos h2] at this; exact this
      · rw [if_neg h2] at this; omega
    · rw [if_neg h1] at this
      by_cases h2 : d < i
      · rw [if_pos h2] at this; omega
      · rw [if_neg h2] at this; omega)
  have h66 := hS.1
  refine ⟨rfl, R', I', rfl, he, hLF, hI, hS.ex he, hSI.keep (fun z h1 h2 => hI z (by omega)), fun j hj hm => ?_⟩
  obtain ⟨c, hc⟩ := List.getElem?_of_mem hm
  by_cases hjk : j = k
  · subst hjk
    simp only [va_up, if_true] at hc
    have := (h.2.2 j j _ _ q hk hk (back c q hc) hq).2
    by_cases h1 : c < i
    · rw [if_pos h1] at this; omega
    · rw [if_neg h1] at this; omega
  · simp only [va_up, if_neg hjk] at hc
    exact hjk (h.2.2 j k _ _ q hj hk hc hq).1
theorem s_add2 (hX : Fx n S R) (h : LF n S R I A P FS) {k q : Nat} {F : FA} (hk : k < 6) (hl : (P k).length < 333) (hS : sf_S n S R q) (hI : sf_I I q F) (hq : ∀ j, j < 6 → q ∉ P j) :
    wp 7 173 (al_c (P k).length (A k).2) (al_s (P k).length (A k).2) MX1_add 0 [(0, .ref (fk k)), (1, .ref q)] [] (n, S, R, I) (fun v h => v = none ∧ ∃ n' S' R' I' A', h = (n', S', R', I') ∧ ab_ex n S R n' S' R' ∧ LF n' S' R' I' A' (va_up P k (P k ++ [q])) (va_up FS k (FS k ++ [F])) ∧ (∀ j, j < n → j ≠ xk k → I' j = I j) ∧ (∀ j, j ≠ k → A' j = A j) ∧ al_c (P k).length (A k).2 + pC A' k ≤ pC A k ∧ al_s (P k).length (A k).2 + pS A' k ≤ pS A k) := by
  obtain ⟨hL, hFl, h9⟩ := id (h.1 k hk)
  obtain ⟨o, r1⟩ := hX.fr hk
  have o0 := hL.1
  have e1 : insAt (P k) (P k).length q = P k ++ [q] := by simp [insAt]
  have e2 : insF (FS k) (P k).length F = FS k ++ [F] := by simp [insF, hFl.1]
  have hi := s_ins hX h (i := (P k).length) hk (Nat.le_refl _) hl hS hI hq
  rw [e1, e2] at hi
  first | refine wp_aload_n (pc := 0) dX1_add_0 rfl ?_ | refine wp_aload_nN (pc := 0) dX1_add_0 rfl ?_
  first | refine wp_aload_n (pc := 1) dX1_add_1 rfl ?_ | refine wp_aload_nN (pc := 1) dX1_add_1 rfl ?_
  refine wp_getR (pc := 2) dX1_add_2 fl_FileRow_12 (by assumption) rfl (by assumption) ?_
  refine cv_FileRow_18 (pc := 5) (s_size hL) rfl dX1_add_5 (by assumption) ⟨by decide, by decide, Nat.zero_le _, Nat.zero_le _⟩ (Nat.le_of_ble_eq_true rfl) (fun v h hp => ?_)
  obtain ⟨rfl, rfl⟩ := hp
  first | refine wp_aload_n (pc := 8) dX1_add_8 rfl ?_ | refine wp_aload_nN (pc := 8) dX1_add_8 rfl ?_
  refine cv_FileRow_28 (pc := 9) (hi) rfl dX1_add_9 (by assumption) ⟨by decide, by decide, by omega, by omega⟩ (Nat.le_of_ble_eq_true rfl) (fun v h hp => ?_)
  obtain ⟨rfl, hp⟩ := hp
  refine wp_retv (pc := 12) dX1_add_12 rfl ?_
  exact ⟨rfl, hp⟩
end SIX
