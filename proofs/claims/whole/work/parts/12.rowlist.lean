/-! ROWS AS LISTS -/
abbrev bh (e : En) (k nu : Int32) : Prop := k.toInt < e.1.toInt ∨ e.1.toInt = k.toInt ∧ e.2.1.toInt < nu.toInt
def rl (s : Nat) (f : Nat → En) : List En := (List.range s).map f
theorem rl_len (s : Nat) (f : Nat → En) : (rl s f).length = s := by simp [rl]
theorem rl_get {s : Nat} {f : Nat → En} {k : Nat} (h : k < s) : (rl s f)[k]? = some (f k) := by
  unfold rl
  rw [List.getElem?_map, List.getElem?_range h]
  rfl
theorem rl_congr {s : Nat} {f g : Nat → En} (h : ∀ j, j < s → f j = g j) : rl s f = rl s g := by
  unfold rl
  apply List.map_congr_left
  intro j hj
  exact h j (List.mem_range.mp hj)
theorem rl_succ (s : Nat) (f : Nat → En) : rl (s + 1) f = rl s f ++ [f s] := by
  unfold rl
  rw [List.range_succ, List.map_append]
  rfl
theorem rl_ext {s : Nat} {f : Nat → En} {l : List En} (hl : l.length = s) (h : ∀ j, j < s → l[j]? = some (f j)) : rl s f = l := by
  apply List.ext_getElem?
  intro j
  by_cases hj : j < s
  · rw [rl_get hj, h j hj]
  · rw [List.getElem?_eq_none (by rw [rl_len]; omega), List.getElem?_eq_none (by omega)]
/-- from the back -/
def insR (e : En) : List En → List En
  | [] => [e]
  | x :: t => if bh x e.1 e.2.1 then x :: insR e t else e :: x :: t
def ins (e : En) (l : List En) : List En := (insR e l.reverse).reverse
theorem insR_app (e : En) : ∀ (A B : List En), (∀ x ∈ A, bh x e.1 e.2.1) → (∀ x, B.head? = some x → ¬ bh x e.1 e.2.1) → insR e (A ++ B) = A ++ e :: B
  | [], [], _, _ => rfl
  | [], x :: t, _, h => by
    show (if bh x e.1 e.2.1 then x :: insR e t else e :: x :: t) = _
    rw [if_neg (h x rfl)]
    rfl
  | a :: A, B, h, h2 => by
    show (if bh a e.1 e.2.1 then a :: insR e (A ++ B) else e :: a :: (A ++ B)) = _
    rw [if_pos (h a List.mem_cons_self), insR_app e A B (fun x hx => h x (List.mem_cons_of_mem _ hx)) h2]
    rfl
theorem ins_at {e : En} {l : List En} {t : Nat} (h1 : ∀ j x, t ≤ j → l[j]? = some x → bh x e.1 e.2.1) (h2 : ∀ x, 0 < t → l[t - 1]? = some x → ¬ bh x e.1 e.2.1) (ht : t ≤ l.length) : ins e l = l.take t ++ e :: l.drop t := by
  unfold ins
  have e0 : l.reverse = (l.drop t).reverse ++ (l.take t).reverse := by rw [← List.reverse_append, List.take_append_drop]
  rw [e0, insR_app]
  · simp
  · intro x hx
    have hx := List.mem_reverse.mp hx
    obtain ⟨i, hi⟩ := List.getElem?_of_mem hx
    rw [List.getElem?_drop] at hi
    exact h1 (t + i) x (by omega) hi
  · intro x hx
    rw [List.head?_reverse, List.getLast?_take] at hx
    by_cases h0 : t = 0
    · simp [h0] at hx
    · rw [if_neg h0] at hx
      have hlt : t - 1 < l.length := by omega
      rw [List.getElem?_eq_getElem hlt] at hx
      simp at hx
      exact h2 x (by omega) (by rw [List.getElem?_eq_getElem hlt, hx])
theorem ins_rl {s t : Nat} {f g : Nat → En} {e : En} (ht : t ≤ s) (h1 : ∀ j, t ≤ j → j < s → bh (f j) e.1 e.2.1) (h2 : 0 < t → ¬ bh (f (t - 1)) e.1 e.2.1) (g1 : ∀ j, j < t → g j = f j) (g2 : g t = e) (g3 : ∀ j, t < j → j ≤ s → g j = f (j - 1)) : rl (s + 1) g = ins e (rl s f) := by
  rw [ins_at (t := t)]
  · refine rl_ext (by simp [rl_len]; omega) (fun j hj => ?_)
    by_cases hjt : j < t
    · rw [List.getElem?_append_left (by simp [rl_len]; omega), List.getElem?_take_of_lt hjt, rl_get (by omega), g1 j hjt]
    · rw [List.getElem?_append_right (by simp [rl_len]; omega)]
      have hl : ((rl s f).take t).length = t := by simp [rl_len]; omega
      rw [hl]
      by_cases hj2 : j = t
      · subst hj2
        simp [g2]
      · rw [show j - t = (j - t - 1) + 1 by omega, List.getElem?_cons_succ, List.getElem?_drop, show t + (j - t - 1) = j - 1 by omega, rl_get (by omega), g3 j (by omega) (by omega)]
  · intro j x hj hx
    have hjs : j < s := by have := (List.getElem?_eq_some_iff.mp hx).1; rw [rl_len] at this; exact this
    rw [rl_get hjs] at hx
    cases hx
    exact h1 j hj hjs
  · intro x h0 hx
    rw [rl_get (by omega)] at hx
    cases hx
    exact h2 h0
  · rw [rl_len]; exact ht
def mR : List En → List En → List En
  | [], ys => ys
  | x :: xs, [] => x :: xs
  | x :: xs, y :: ys => if bh x y.1 y.2.1 then x :: mR xs (y :: ys) else y :: mR (x :: xs) ys
theorem mR_nil (xs : List En) : mR xs [] = xs := by cases xs <;> simp [mR]
theorem mR_nil1 (ys : List En) : mR [] ys = ys := by simp [mR]
/-- sorted from the front: what a row and another make together -/
def mrg (l l' : List En) : List En := (mR l.reverse l'.reverse).reverse
section ROW
variable {n : Nat} {S : ab_SH} {R : ab_RR} {I : ab_II} {r a b c cap s : Nat} {f : Nat → En} {x : Int32}
theorem s_X4_standsBehind (hS : rw_S n S R r a b c cap) (hI : rw_I I r a b c s f) (hs : s ≤ cap) (x k nu : Int32) (h0 : 0 ≤ x.toInt) (h1 : x.toInt < s) : wp 1 21 0 0 MX4_standsBehind 0 [(0, .ref r), (1, .int x), (2, .int k), (3, .int nu)] [] (n, S, R, I) (fun v h => h = (n, S, R, I) ∧ v = some (.int (if bh (f x.toInt.toNat) k nu then 1 else 0))) := by
  have o0 := hS.1
  have e1 : rk_1 s f x = (f x.toInt.toNat).1 := if_pos ⟨h0, h1⟩
  have e2 : rk_2 s f x = (f x.toInt.toNat).2.1 := if_pos ⟨h0, h1⟩
  first | refine wp_aload_n (pc := 0) dX4_standsBehind_0 rfl ?_ | refine wp_aload_nN (pc := 0) dX4_standsBehind_0 rfl ?_
  refine wp_iload_n (pc := 1) dX4_standsBehind_1 rfl ?_
  refine cv_Row_41 (pc := 2) (s_X4_key hS hI hs x) rfl dX4_standsBehind_2 (by assumption) ⟨by decide, by decide, Nat.zero_le _, Nat.zero_le _⟩ (Nat.le_of_ble_eq_true rfl) (fun v h hp => ?_)
  obtain ⟨rfl, rfl⟩ := hp
  rw [e1]
  refine wp_iload_n (pc := 5) dX4_standsBehind_5 rfl ?_
  refine wp_icmp_gt (pc := 6) (tgt := 27) dX4_standsBehind_6 (by decide) (fun hc => ?_) (fun hc => ?_)
  · skip
    refine wp_iconst (pc := 27) (v := 1) dX4_standsBehind_27 (by decide) ?_
    refine wp_goto (pc := 28) (tgt := 32) dX4_standsBehind_28 (by decide) ?_
    refine wp_ret (pc := 32) dX4_standsBehind_32 rfl (by first | trivial | exact Or.inl rfl | exact Or.inr rfl | assumption) ?_
    first | exact ⟨rfl, by rw [if_pos (by unfold bh; omega)]⟩ | exact ⟨rfl, by rw [if_neg (by unfold bh; omega)]⟩
  · skip
    first | refine wp_aload_n (pc := 9) dX4_standsBehind_9 rfl ?_ | refine wp_aload_nN (pc := 9) dX4_standsBehind_9 rfl ?_
    refine wp_iload_n (pc := 10) dX4_standsBehind_10 rfl ?_
    refine cv_Row_41 (pc := 11) (s_X4_key hS hI hs x) rfl dX4_standsBehind_11 (by assumption) ⟨by decide, by decide, Nat.zero_le _, Nat.zero_le _⟩ (Nat.le_of_ble_eq_true rfl) (fun v h hp => ?_)
    obtain ⟨rfl, rfl⟩ := hp
    rw [e1]
    refine wp_iload_n (pc := 14) dX4_standsBehind_14 rfl ?_
    refine wp_icmp_ne (pc := 15) (tgt := 31) dX4_standsBehind_15 (by decide) (fun hc => ?_) (fun hc => ?_)
    · skip
      refine wp_iconst (pc := 31) (v := 0) dX4_standsBehind_31 (by decide) ?_
      refine wp_ret (pc := 32) dX4_standsBehind_32 rfl (by first | trivial | exact Or.inl rfl | exact Or.inr rfl | assumption) ?_
      first | exact ⟨rfl, by rw [if_pos (by unfold bh; omega)]⟩ | exact ⟨rfl, by rw [if_neg (by unfold bh; omega)]⟩
    · skip
      first | refine wp_aload_n (pc := 18) dX4_standsBehind_18 rfl ?_ | refine wp_aload_nN (pc := 18) dX4_standsBehind_18 rfl ?_
      refine wp_iload_n (pc := 19) dX4_standsBehind_19 rfl ?_
      refine cv_Row_44 (pc := 20) (s_X4_number hS hI hs x) rfl dX4_standsBehind_20 (by assumption) ⟨by decide, by decide, Nat.zero_le _, Nat.zero_le _⟩ (Nat.le_of_ble_eq_true rfl) (fun v h hp => ?_)
      obtain ⟨rfl, rfl⟩ := hp
      rw [e2]
      refine wp_iload_n (pc := 23) dX4_standsBehind_23 rfl ?_
      refine wp_icmp_ge (pc := 24) (tgt := 31) dX4_standsBehind_24 (by decide) (fun hc => ?_) (fun hc => ?_)
      · skip
        refine wp_iconst (pc := 31) (v := 0) dX4_standsBehind_31 (by decide) ?_
        refine wp_ret (pc := 32) dX4_standsBehind_32 rfl (by first | trivial | exact Or.inl rfl | exact Or.inr rfl | assumption) ?_
        first | exact ⟨rfl, by rw [if_pos (by unfold bh; omega)]⟩ | exact ⟨rfl, by rw [if_neg (by unfold bh; omega)]⟩
      · skip
        refine wp_iconst (pc := 27) (v := 1) dX4_standsBehind_27 (by decide) ?_
        refine wp_goto (pc := 28) (tgt := 32) dX4_standsBehind_28 (by decide) ?_
        refine wp_ret (pc := 32) dX4_standsBehind_32 rfl (by first | trivial | exact Or.inl rfl | exact Or.inr rfl | assumption) ?_
        first | exact ⟨rfl, by rw [if_pos (by unfold bh; omega)]⟩ | exact ⟨rfl, by rw [if_neg (by unfold bh; omega)]⟩
theorem s_X4_insert_loop (hS : rw_S n S R r a b c cap) (hs : s < cap) (k nu v : Int32) (post : ab_Po) {I0 : ab_II} (f : Nat → En)
    (hpost : ∀ (t : Nat) (g : Nat → En) (I' : ab_II), t ≤ s → (∀ j, j < t → g j = f j) → g t = (k, nu, v) → (∀ j, t < j → j ≤ s → g j = f (j - 1)) → (∀ j, t ≤ j → j < s → bh (f j) k nu) → (0 < t → ¬ bh (f (t - 1)) k nu) → ab_fr I0 I' [r, a, b, c] → rw_I I' r a b c (s + 1) g → post none (n, S, R, I')) :
    ∀ (t : Nat) (x : Int32) (g : Nat → En) (I : ab_II), x = nI t → t ≤ s → (∀ j, j < t → g j = f j) → (∀ j, t < j → j ≤ s → g j = f (j - 1)) → (∀ j, t ≤ j → j < s → bh (f j) k nu) → ab_fr I0 I [r, a, b, c] → rw_I I r a b c (s + 1) g →
    wp 3 68 0 0 MX4_insert 31 [(0, .ref r), (1, .int k), (2, .int nu), (3, .int v), (4, .int x)] [] (n, S, R, I) post := by
  have o0 := hS.1
  have hcap : cap ≤ 10000 := hS.2.2.2.2.2.2.2.2.2.2.2.2.2
  have fin : ∀ (t : Nat) (x : Int32) (g : Nat → En) (I : ab_II), x = nI t → t ≤ s → (∀ j, j < t → g j = f j) → (∀ j, t < j → j ≤ s → g j = f (j - 1)) → (∀ j, t ≤ j → j < s → bh (f j) k nu) → (0 < t → ¬ bh (f (t - 1)) k nu) → ab_fr I0 I [r, a, b, c] → rw_I I r a b c (s + 1) g →
      wp 3 68 0 0 MX4_insert 66 [(0, .ref r), (1, .int k), (2, .int nu), (3, .int v), (4, .int x)] [] (n, S, R, I) post := by
    intro t x g I hx ht g1 g3 hb hnb hf hI
    have ex : x.toInt = t := by rw [hx, tI_n (by omega)]
    first | refine wp_aload_n (pc := 66) dX4_insert_66 rfl ?_ | refine wp_aload_nN (pc := 66) dX4_insert_66 rfl ?_
    refine wp_iload (pc := 67) dX4_insert_67 rfl ?_
    refine wp_iload_n (pc := 69) dX4_insert_69 rfl ?_
    refine wp_iload_n (pc := 70) dX4_insert_70 rfl ?_
    refine wp_iload_n (pc := 71) dX4_insert_71 rfl ?_
    refine cv_Row_47 (pc := 72) (s_X4_setAt hS hI (by omega) x k nu v (by omega) (by omega)) rfl dX4_insert_72 (by assumption) ⟨by decide, by decide, Nat.zero_le _, Nat.zero_le _⟩ (Nat.le_of_ble_eq_true rfl) (fun v h hp => ?_)
    obtain ⟨rfl, I', rfl, hf', hr⟩ := hp
    refine wp_retv (pc := 75) dX4_insert_75 rfl ?_
    refine hpost t (va_up g x.toInt.toNat (k, nu, v)) I' ht (fun j hj => ?_) ?_ (fun j h1 h2 => ?_) hb hnb (hf.tr hf' (fun _ q => q) (by simp)) hr
    · rw [ex, Int.toNat_natCast, ← g1 j hj]
      simp [va_up, show j ≠ t by omega]
    · simp [va_up, ex]
    · rw [ex, Int.toNat_natCast, ← g3 j h1 h2]
      simp [va_up, show j ≠ t by omega]
  intro t
  induction t with
  | zero =>
    intro x g I hx ht g1 g3 hb hf hI
    have ex : x.toInt = 0 := by rw [hx]; rfl
    refine wp_iload (pc := 31) dX4_insert_31 rfl ?_
    refine wp_if_le (pc := 33) (tgt := 66) dX4_insert_33 (by decide) (fun hc => ?_) (fun hc => ?_)
    · skip
      exact fin 0 x g I hx ht g1 g3 hb (fun q => absurd q (by omega)) hf hI
    · omega
  | succ t ih =>
    intro x g I hx ht g1 g3 hb hf hI
    have ex : x.toInt = ((t + 1 : Nat) : Int) := by rw [hx, tI_n (by omega)]
    have ex1 : x - 1 = nI t := by rw [hx]; exact nI_pred t
    have ex2 : (nI t).toInt = t := tI_n (by omega)
    refine wp_iload (pc := 31) dX4_insert_31 rfl ?_
    refine wp_if_le (pc := 33) (tgt := 66) dX4_insert_33 (by decide) (fun hc => ?_) (fun hc => ?_)
    · omega
    · skip
      first | refine wp_aload_n (pc := 36) dX4_insert_36 rfl ?_ | refine wp_aload_nN (pc := 36) dX4_insert_36 rfl ?_
      refine wp_iload (pc := 37) dX4_insert_37 rfl ?_
      refine wp_iconst (pc := 39) (v := 1) dX4_insert_39 (by decide) ?_
      refine wp_isub (pc := 40) dX4_insert_40 ?_
      rw [ex1]
      refine wp_iload_n (pc := 41) dX4_insert_41 rfl ?_
      refine wp_iload_n (pc := 42) dX4_insert_42 rfl ?_
      refine cv_Row_58 (pc := 43) (s_X4_standsBehind hS hI (by omega) (nI t) k nu (by omega) (by omega)) rfl dX4_insert_43 (by assumption) ⟨by decide, by decide, Nat.zero_le _, Nat.zero_le _⟩ (Nat.le_of_ble_eq_true rfl) (fun v h hp => ?_)
      obtain ⟨rfl, rfl⟩ := hp
      rw [ex2, Int.toNat_natCast, g1 t (by omega)]
      refine wp_if_eq (pc := 46) (tgt := 66) dX4_insert_46 (by decide) (fun hc => ?_) (fun hc => ?_)
      · have hnb : ¬ bh (f t) k nu := fun q => by rw [if_pos q] at hc; exact absurd hc (by decide)
        exact fin (t + 1) x g I hx ht g1 g3 hb (fun _ => hnb) hf hI
      · have hnb : bh (f t) k nu := Decidable.byContradiction fun q => hc (by rw [if_neg q]; rfl)
        first | refine wp_aload_n (pc := 49) dX4_insert_49 rfl ?_ | refine wp_aload_nN (pc := 49) dX4_insert_49 rfl ?_
        refine wp_iload (pc := 50) dX4_insert_50 rfl ?_
        first | refine wp_aload_n (pc := 52) dX4_insert_52 rfl ?_ | refine wp_aload_nN (pc := 52) dX4_insert_52 rfl ?_
        refine wp_iload (pc := 53) dX4_insert_53 rfl ?_
        refine wp_iconst (pc := 55) (v := 1) dX4_insert_55 (by decide) ?_
        refine wp_isub (pc := 56) dX4_insert_56 ?_
        rw [ex1]
        refine cv_Row_54 (pc := 57) (s_X4_copyTo hS hI (by omega) hS hI (by omega) x (nI t) (by omega) (by omega) (by omega) (by omega)) rfl dX4_insert_57 (by assumption) ⟨by decide, by decide, Nat.zero_le _, Nat.zero_le _⟩ (Nat.le_of_ble_eq_true rfl) (fun v h hp => ?_)
        obtain ⟨rfl, I', rfl, hf', hr⟩ := hp
        rw [ex, ex2, Int.toNat_natCast, Int.toNat_natCast] at hr
        refine wp_iinc (pc := 60) dX4_insert_60 rfl (by decide) rfl ?_
        refine wp_goto (pc := 63) (tgt := 31) dX4_insert_63 (by decide) ?_
        refine wp_loc (L' := [(0, .ref r), (1, .int k), (2, .int nu), (3, .int v), (4, .int (x + Int32.ofInt (-1)))]) ⟨rfl, rfl, rfl, rfl, rfl, trivial⟩ ?_
        refine ih (x + Int32.ofInt (-1)) _ I' (by rw [hx]; exact nI_m1 t) (by omega) (fun j hj => ?_) (fun j h1 h2 => ?_) (fun j h1 h2 => ?_) (hf.tr hf' (fun _ q => q) (by simp)) hr
        · rw [← g1 j (by omega)]
          simp [va_up, show j ≠ t + 1 by omega]
        · by_cases hj : j = t + 1
          · subst hj
            simp [va_up, g1 t (by omega)]
          · rw [← g3 j (by omega) h2]
            simp [va_up, hj]
        · by_cases hj : j = t
          · subst hj; exact hnb
          · exact hb j (by omega) h2
theorem s_X4_insert (hS : rw_S n S R r a b c cap) (hI : rw_I I r a b c s f) (hs : s < cap) (k nu v : Int32) : wp 3 68 0 0 MX4_insert 0 [(0, .ref r), (1, .int k), (2, .int nu), (3, .int v)] [] (n, S, R, I) (fun w h => w = none ∧ ∃ I' g, h = (n, S, R, I') ∧ ab_fr I I' [r, a, b, c] ∧ rw_I I' r a b c (s + 1) g ∧ rl (s + 1) g = ins (k, nu, v) (rl s f)) := by
  obtain ⟨o0, q0, q1, q2, o1, o2, o3, z1, z2, z3, d1, d2, d3, hcap⟩ := id hS
  have e1 : I r 3 + 1 = nI (s + 1) := by rw [hI.1]; exact nI_1 s
  have e2 : I r 3 + 1 - 1 = nI s := by rw [e1]; exact nI_pred s
  have hI2 : rw_I (ab_u2 I r 3 (I r 3 + 1)) r a b c (s + 1) f := hI.size e1 (ab_ok_ne o1 o0 (by decide)) (ab_ok_ne o2 o0 (by decide)) (ab_ok_ne o3 o0 (by decide))
  first | refine wp_aload_n (pc := 0) dX4_insert_0 rfl ?_ | refine wp_aload_nN (pc := 0) dX4_insert_0 rfl ?_
  refine wp_getI (pc := 1) dX4_insert_1 fl_Row_27 (by assumption) rfl ?_
  first | refine wp_aload_n (pc := 4) dX4_insert_4 rfl ?_ | refine wp_aload_nN (pc := 4) dX4_insert_4 rfl ?_
  refine wp_getR (pc := 5) dX4_insert_5 fl_Row_15 (by assumption) rfl (by assumption) ?_
  first | refine wp_alen (pc := 8) dX4_insert_8 (Or.inl (by assumption)) ?_ | refine wp_alen (pc := 8) dX4_insert_8 (Or.inr (Or.inl (by assumption))) ?_ | refine wp_alen (pc := 8) dX4_insert_8 (Or.inr (Or.inr (Or.inl (by assumption)))) ?_ | refine wp_alen (pc := 8) dX4_insert_8 (Or.inr (Or.inr (Or.inr (by assumption)))) ?_
  refine wp_icmp_lt (pc := 9) (tgt := 13) dX4_insert_9 (by decide) (fun hc => ?_) (fun hc => ?_)
  · skip
    first | refine wp_aload_n (pc := 13) dX4_insert_13 rfl ?_ | refine wp_aload_nN (pc := 13) dX4_insert_13 rfl ?_
    refine wp_dup (pc := 14) dX4_insert_14 rfl ?_
    refine wp_getI (pc := 15) dX4_insert_15 fl_Row_27 (by assumption) rfl ?_
    refine wp_iconst (pc := 18) (v := 1) dX4_insert_18 (by decide) ?_
    refine wp_iadd (pc := 19) dX4_insert_19 ?_
    refine wp_putI (pc := 20) dX4_insert_20 fl_Row_27 (by assumption) rfl rfl (Or.inl rfl) ?_
    first | refine wp_aload_n (pc := 23) dX4_insert_23 rfl ?_ | refine wp_aload_nN (pc := 23) dX4_insert_23 rfl ?_
    refine wp_getI (pc := 24) dX4_insert_24 fl_Row_27 (by assumption) rfl ?_
    refine wp_iconst (pc := 27) (v := 1) dX4_insert_27 (by decide) ?_
    refine wp_isub (pc := 28) dX4_insert_28 ?_
    rw [ab_u2_s, e2]
    refine wp_istore (pc := 29) dX4_insert_29 (by decide) rfl ?_
    refine wp_loc (L' := [(0, .ref r), (1, .int k), (2, .int nu), (3, .int v), (4, .int (nI s))]) ⟨rfl, rfl, rfl, rfl, rfl, trivial⟩ ?_
    refine s_X4_insert_loop hS hs k nu v _ f (I0 := I) (fun t g I' ht g1 g2 g3 hb hnb hf hr => ⟨rfl, I', g, rfl, hf, hr, ins_rl ht hb hnb g1 g2 g3⟩) s (nI s) f _ rfl (Nat.le_refl s) (fun _ _ => rfl) (fun j h1 h2 => absurd h1 (by omega)) (fun j h1 h2 => absurd h1 (by omega)) (ab_fr.u2 (by simp)) hI2
  · exact absurd hc (by rw [hI.1, tI_n (by omega), tI_o (by omega), z1]; omega)
end ROW
