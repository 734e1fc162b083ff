/-! THE SIX ROWS OF FILES: levels 0 .. 3, those out of use (4), those a job made (5) -/
def xk (k : Nat) : Nat := [11, 13, 15, 17, 19, 38].getD k 0
def fk (k : Nat) : Nat := [10, 12, 14, 16, 18, 37].getD k 0
theorem xk_in {k : Nat} (h : k < 6) : 11 ≤ xk k ∧ xk k ≤ 38 ∧ xk k ≠ 20 ∧ xk k ≠ 21 ∧ xk k ≠ 22 ∧ xk k ≠ 23 ∧ xk k ≠ 24 ∧ xk k ≠ 25 ∧ xk k ≠ 26 ∧ xk k ≠ 27 ∧ xk k ≠ 28 ∧ xk k ≠ 29 ∧ xk k ≠ 30 ∧ xk k ≠ 31 ∧ xk k ≠ 32 ∧ xk k ≠ 33 ∧ xk k ≠ 34 ∧ xk k ≠ 35 ∧ xk k ≠ 36 := by
  rcases (show k = 0 ∨ k = 1 ∨ k = 2 ∨ k = 3 ∨ k = 4 ∨ k = 5 by omega) with rfl | rfl | rfl | rfl | rfl | rfl <;> decide
theorem xk_inj {i j : Nat} (hi : i < 6) (hj : j < 6) (h : xk i = xk j) : i = j := by
  have key : ∀ i, i < 6 → ∀ j, j < 6 → xk i = xk j → i = j := by decide
  exact key i hi j hj h
theorem Fx.fr {n : Nat} {S : ab_SH} {R : ab_RR} (hX : Fx n S R) {k : Nat} (hk : k < 6) : fr_S n S R (fk k) (xk k) := by
  rcases (show k = 0 ∨ k = 1 ∨ k = 2 ∨ k = 3 ∨ k = 4 ∨ k = 5 by omega) with rfl | rfl | rfl | rfl | rfl | rfl <;> exact ⟨hX.ok (by decide), hX.ref rfl⟩
abbrev AC : Type := Nat → Nat × Nat
def LF (n : Nat) (S : ab_SH) (R : ab_RR) (I : ab_II) (A : AC) (P : Nat → List Nat) (FS : Nat → List FA) : Prop :=
  (∀ k, k < 6 → al_L n S R I (xk k) (A k).1 (A k).2 (P k) ∧ fl_I n S R I (P k) (FS k) ∧ (A k).2 ≤ 500) ∧ (∀ i j, i < 6 → j < 6 → i ≠ j → (A i).1 ≠ 0 → (A i).1 ≠ (A j).1) ∧ ∀ (i j a b q : Nat), i < 6 → j < 6 → (P i)[a]? = some q → (P j)[b]? = some q → i = j ∧ a = b
def pC (A : AC) (k : Nat) : Nat := (500 - (A k).2) / 5
def pS (A : AC) (k : Nat) : Nat := 4 * (500 - (A k).2)
def insF (l : List FA) (i : Nat) (F : FA) : List FA := l.take i ++ F :: l.drop i
def delF (l : List FA) (i : Nat) : List FA := l.take i ++ l.drop (i + 1)
theorem insF_get {l : List FA} {i j : Nat} {F : FA} (h : i ≤ l.length) : (insF l i F)[j]? = if j < i then l[j]? else if j = i then some F else l[j - 1]? := by
  unfold insF
  by_cases h1 : j < i
  · rw [if_pos h1, List.getElem?_append_left (by simp; omega), List.getElem?_take_of_lt h1]
  · rw [if_neg h1, List.getElem?_append_right (by simp; omega)]
    have hl : (l.take i).length = i := by simp; omega
    rw [hl]
    by_cases h2 : j = i
    · rw [if_pos h2, h2, Nat.sub_self]
      rfl
    · rw [if_neg h2, show j - i = (j - i - 1) + 1 by omega, List.getElem?_cons_succ, List.getElem?_drop]
      congr 1
      omega
theorem delF_get {l : List FA} {i j : Nat} (h : i < l.length) : (delF l i)[j]? = if j < i then l[j]? else l[j + 1]? := by
  unfold delF
  by_cases h1 : j < i
  · rw [if_pos h1, List.getElem?_append_left (by simp; omega), List.getElem?_take_of_lt h1]
  · rw [if_neg h1, List.getElem?_append_right (by simp; omega)]
    have hl : (l.take i).length = i := by simp; omega
    rw [hl, List.getElem?_drop]
    congr 1
    omega
theorem sf_S.ex {n n' : Nat} {S S' : ab_SH} {R R' : ab_RR} {q : Nat} (h : sf_S n S R q) (he : ab_ex n S R n' S' R') : sf_S n' S' R' q := by
  obtain ⟨h1, h2, h3, o0, q0, q1, q2, o1, o2, o3, z1, z2, z3, d⟩ := h
  have rr : ∀ j ci, ab_ok n S j ci → ci ≠ 0 → ci ≠ 12 → R' j = R j := fun j ci ho a b => he.2.2 j ho.1 ho.2.1 (by rw [ho.2.2]; exact a) (by rw [ho.2.2]; exact b)
  refine ⟨h1, he.ok h2, by rw [rr _ _ h2 (by decide) (by decide)]; exact h3, he.ok o0, ?_, ?_, ?_, he.ok o1, he.ok o2, he.ok o3, ?_, ?_, ?_, d⟩
  · rw [rr _ _ o0 (by decide) (by decide)]; exact q0
  · rw [rr _ _ o0 (by decide) (by decide)]; exact q1
  · rw [rr _ _ o0 (by decide) (by decide)]; exact q2
  · rw [he.2.1 _ o1.2.1]; exact z1
  · rw [he.2.1 _ o2.2.1]; exact z2
  · rw [he.2.1 _ o3.2.1]; exact z3
theorem sf_S.lt {n : Nat} {S : ab_SH} {R : ab_RR} {q : Nat} (h : sf_S n S R q) : q + 4 < n := h.2.2.2.2.2.2.2.2.2.1.2.1
theorem fl_I.ex {n n' : Nat} {S S' : ab_SH} {R R' : ab_RR} {I I' : ab_II} {l : List Nat} {fs : List FA} (h : fl_I n S R I l fs) (he : ab_ex n S R n' S' R') (hk : ∀ j, 66 ≤ j → j < n → I' j = I j) : fl_I n' S' R' I' l fs := by
  refine ⟨h.1, fun i q F hq hF => ?_⟩
  obtain ⟨a, b⟩ := h.2 i q F hq hF
  have := a.1
  have := a.lt
  exact ⟨a.ex he, b.keep (fun j h1 h2 => hk j (by omega) (by omega))⟩
/-- another list of the six stays, when one changes -/
theorem al_L.other {n n' : Nat} {S S' : ab_SH} {R R' : ab_RR} {I I' : ab_II} {x arr cap : Nat} {l : List Nat} (h : al_L n S R I x arr cap l) (he : ab_ex n S R n' S' R') (hR : R' x = R x) (hR2 : arr ≠ 0 → R' arr = R arr) (hI : I' x = I x) : al_L n' S' R' I' x arr cap l := by
  obtain ⟨h1, h2, h3, h4, h5, h6, h7, h8⟩ := h
  refine ⟨he.ok h1, by rw [hR]; exact h2, by rw [hI]; exact h3, h4, h5, ?_, fun i q hq => ?_, fun q hq => he.ok (h8 q hq)⟩
  · rcases h6 with h6 | ⟨a, b, c⟩
    · exact Or.inl h6
    · exact Or.inr ⟨a, he.ok b, by rw [he.2.1 _ b.2.1]; exact c⟩
  · rcases h6 with h6 | ⟨a, b, c⟩
    · have := (List.getElem?_eq_some_iff.mp hq).1
      omega
    · rw [hR2 (by have := b.1; omega)]
      exact h7 i q hq
theorem al_L.arr_lt {n : Nat} {S : ab_SH} {R : ab_RR} {I : ab_II} {x arr cap : Nat} {l : List Nat} (h : al_L n S R I x arr cap l) (hx : 66 ≤ n) : arr < n := by
  rcases h.2.2.2.2.2.1 with h | h
  · omega
  · exact h.2.1.2.1
section SIX
variable {n : Nat} {S : ab_SH} {R : ab_RR} {I : ab_II} {A : AC} {P : Nat → List Nat} {FS : Nat → List FA}
theorem LF.keep {I' : ab_II} (h : LF n S R I A P FS) (h1 : ∀ k, k < 6 → I' (xk k) = I (xk k)) (h2 : ∀ j, 66 ≤ j → I' j = I j) : LF n S R I' A P FS :=
  ⟨fun k hk => ⟨(h.1 k hk).1.keepI (h1 k hk), (h.1 k hk).2.1.keep h2, (h.1 k hk).2.2⟩, h.2⟩
theorem nc_le {cap : Nat} (h : cap < 333) (h0 : cap = 0 ∨ 10 ≤ cap) : nc cap ≤ 500 ∧ cap ≤ nc cap ∧ 5 + cap ≤ nc cap ∧ nc cap ≤ 4 * (nc cap - cap) := by
  unfold nc
  split <;> omega
theorem s_ins (hX : Fx n S R) (h : LF n S R I A P FS) {k i q : Nat} {F : FA} (hk : k < 6) (hi : i ≤ (P k).length) (hl : (P k).length < 333) (hS : sf_S n S R q) (hI : sf_I I q F) (hq : ∀ j, j < 6 → q ∉ P j) :
    wp 6 151 (al_c (P k).length (A k).2) (al_s (P k).length (A k).2) MX1_insert 0 [(0, .ref (fk k)), (1, .int (nI i)), (2, .ref q)] [] (n, S, R, I) (fun v h => v = none ∧ ∃ n' S' R' I' A', h = (n', S', R', I') ∧ ab_ex n S R n' S' R' ∧ LF n' S' R' I' A' (va_up P k (insAt (P k) i q)) (va_up FS k (insF (FS k) i F)) ∧ (∀ j, j < n → j ≠ xk k → I' j = I j) ∧ (∀ j, j ≠ k → A' j = A j) ∧ al_c (P k).length (A k).2 + pC A' k ≤ pC A k ∧ al_s (P k).length (A k).2 + pS A' k ≤ pS A k) := by
  obtain ⟨hL, hFl, h9⟩ := h.1 k hk
  have hlen := hL.2.2.2.1
  have h66 := hX.1
  have hxk := xk_in hk
  have hc10 : (A k).2 = 0 ∨ 10 ≤ (A k).2 := hL.2.2.2.2.2.1.elim (fun z => Or.inl z.1) (fun z => Or.inr z.1)
  refine wp_post (fun v hh hp => ?_) (s_X1_insert (hX.fr hk) hL (by omega) (nI i) i q (tI_n (by omega)) hi hS.2.1)
  obtain ⟨rfl, n', S', R', I', arr', rfl, hL', he, hn', harr, hR, hI'⟩ := hp
  have hcap' : (if (P k).length = (A k).2 then nc (A k).2 else (A k).2) ≤ 500 ∧ (A k).2 ≤ (if (P k).length = (A k).2 then nc (A k).2 else (A k).2) := by
    split
    · have := nc_le (cap := (A k).2) (by omega) hc10
      omega
    · omega
  refine ⟨rfl, n', S', R', I', va_up A k (arr', if (P k).length = (A k).2 then nc (A k).2 else (A k).2), rfl, he, ⟨fun j hj => ?_, fun a b ha hb hab h0 => ?_, fun a b c d y ha hb hc hd => ?_⟩, hI', fun j hj => by simp [va_up, hj], ?_, ?_⟩
  · by_cases hjk : j = k
    · subst hjk
      simp only [va_up, if_true]
      refine ⟨hL', ⟨?_, fun a y G hy hG => ?_⟩, hcap'.1⟩
      · rw [insAt_len hi, insF]
        have := hFl.1
        simp
        omega
      · have hfi : i ≤ (FS j).length := by rw [← hFl.1]; exact hi
        rw [insAt_get hi] at hy
        rw [insF_get hfi] at hG
        by_cases h1 : a < i
        · rw [if_pos h1] at hy hG
          exact (hFl.ex he (fun z hz1 hz2 => hI' z hz2 (by omega))).2 a y G hy hG
        · rw [if_neg h1] at hy hG
          by_cases h2 : a = i
          · rw [if_pos h2] at hy hG
            cases hy
            cases hG
            have := hS.1
            have := hS.lt
            exact ⟨hS.ex he, hI.keep (fun z hz1 hz2 => hI' z (by omega) (by omega))⟩
          · rw [if_neg h2] at hy hG
            exact (hFl.ex he (fun z hz1 hz2 => hI' z hz2 (by omega))).2 (a - 1) y G hy hG
    · obtain ⟨gL, gF, g9⟩ := h.1 j hj
      have hxj := xk_in hj
      have hne : xk j ≠ xk k := fun e => hjk (xk_inj hj hk e)
      simp only [va_up, if_neg hjk]
      have hx1 : xk j ≠ (A k).1 := by
        rcases hL.2.2.2.2.2.1 with z | z
        · omega
        · exact ab_ok_ne gL.1 z.2.1 (by decide)
      refine ⟨gL.other he (hR _ (by omega) hne hx1) (fun h0 => ?_) (hI' _ (by omega) hne), gF.ex he (fun z hz1 hz2 => hI' z hz2 (by omega)), g9⟩
      have hA : ab_ok n S (A j).1 12 := by
        rcases gL.2.2.2.2.2.1 with z | z
        · exact absurd z.2 h0
        · exact z.2.1
      exact hR _ hA.2.1 (ab_ok_ne hA hL.1 (by decide)) (h.2.1 j k hj hk hjk h0)
  · have lt : ∀ j, j < 6 → (A j).1 < n := fun j hj => (h.1 j hj).1.arr_lt h66
    by_cases hak : a = k
    · subst hak
      have hbk : b ≠ a := fun e => hab e.symm
      simp only [va_up, if_true, if_neg hbk] at h0 ⊢
      rcases harr with rfl | harr
      · exact h.2.1 a b ha hb hab h0
      · have := lt b hb
        omega
    · simp only [va_up, if_neg hak] at h0 ⊢
      by_cases hbk : b = k
      · subst hbk
        simp only [if_true]
        rcases harr with rfl | harr
        · exact h.2.1 a b ha hb hab h0
        · have := lt a ha
          omega
      · simp only [if_neg hbk]
        exact h.2.1 a b ha hb hab h0
  · have mem : ∀ j c, j < 6 → (P j)[c]? ≠ some q := fun j c hj hc => hq j hj (List.mem_of_getElem? hc)
    by_cases hak : a = k
    · subst hak
      simp only [va_up, if_true] at hc
      rw [insAt_get hi] at hc
      by_cases hbk : b = a
      · subst hbk
        simp only [va_up, if_true] at hd
        rw [insAt_get hi] at hd
        refine ⟨rfl, ?_⟩
        by_cases c1 : c < i
        · rw [if_pos c1] at hc
          by_cases d1 : d < i
          · rw [if_pos d1] at hd
            exact (h.2.2 _ _ _ _ _ ha ha hc hd).2
          · rw [if_neg d1] at hd
            by_cases d2 : d = i
            · rw [if_pos d2] at hd; cases hd; exact absurd hc (mem _ _ ha)
            · rw [if_neg d2] at hd
              have := (h.2.2 _ _ _ _ _ ha ha hc hd).2
              omega
        · rw [if_neg c1] at hc
          by_cases c2 : c = i
          · rw [if_pos c2] at hc
            cases hc
            by_cases d1 : d < i
            · rw [if_pos d1] at hd; exact absurd hd (mem _ _ ha)
            · rw [if_neg d1] at hd
              by_cases d2 : d = i
              · omega
              · rw [if_neg d2] at hd; exact absurd hd (mem _ _ ha)
          · rw [if_neg c2] at hc
            by_cases d1 : d < i
            · rw [if_pos d1] at hd
              have := (h.2.2 _ _ _ _ _ ha ha hc hd).2
              omega
            · rw [if_neg d1] at hd
              by_cases d2 : d = i
              · rw [if_pos d2] at hd; cases hd; exact absurd hc (mem _ _ ha)
              · rw [if_neg d2] at hd
                have := (h.2.2 _ _ _ _ _ ha ha hc hd).2
                omega
      · simp only [va_up, if_neg hbk] at hd
        exfalso
        by_cases c1 : c < i
        · rw [if_pos c1] at hc; exact hbk (h.2.2 _ _ _ _ _ ha hb hc hd).1.symm
        · rw [if_neg c1] at hc
          by_cases c2 : c = i
          · rw [if_pos c2] at hc; cases hc; exact mem _ _ hb hd
          · rw [if_neg c2] at hc; exact hbk (h.2.2 _ _ _ _ _ ha hb hc hd).1.symm
    · simp only [va_up, if_neg hak] at hc
      by_cases hbk : b = k
      · subst hbk
        simp only [va_up, if_true] at hd
        rw [insAt_get hi] at hd
        exfalso
        by_cases d1 : d < i
        · rw [if_pos d1] at hd; exact hak (h.2.2 _ _ _ _ _ ha hb hc hd).1
        · rw [if_neg d1] at hd
          by_cases d2 : d = i
          · rw [if_pos d2] at hd; cases hd; exact mem _ _ ha hc
          · rw [if_neg d2] at hd; exact hak (h.2.2 _ _ _ _ _ ha hb hc hd).1
      · simp only [va_up, if_neg hbk] at hd
        exact h.2.2 _ _ _ _ _ ha hb hc hd
  · unfold pC al_c
    simp only [va_up, if_true]
    by_cases hf : (P k).length = (A k).2
    · rw [if_pos hf, if_pos hf]
      have := nc_le (cap := (A k).2) (by omega) hc10
      omega
    · rw [if_neg hf, if_neg hf]; omega
  · unfold pS al_s
    simp only [va_up, if_true]
    by_cases hf : (P k).length = (A k).2
    · rw [if_pos hf, if_pos hf]
      have := nc_le (cap := (A k).2) (by omega) hc10
      omega
    · rw [if_neg hf, if_neg hf]; omega
end SIX
