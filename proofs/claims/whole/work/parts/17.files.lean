/-! FILES -/
/-- a file: number, place, length, entries -/
abbrev FA : Type := Int32 × Int32 × Int32 × List En
abbrev FA.es (F : FA) : List En := F.2.2.2
def sf_S (n : Nat) (S : ab_SH) (R : ab_RR) (q : Nat) : Prop := 66 ≤ q ∧ ab_ok n S q 6 ∧ R q 0 = some (q + 1) ∧ rw_S n S R (q + 1) (q + 2) (q + 3) (q + 4) 24
def sf_I (I : ab_II) (q : Nat) (F : FA) : Prop := I q 1 = F.1 ∧ I q 2 = F.2.1 ∧ I q 3 = F.2.2.1 ∧ F.es.length ≤ 24 ∧ ∃ f, rw_I I (q + 1) (q + 2) (q + 3) (q + 4) F.es.length f ∧ rl F.es.length f = F.es
def fl_I (n : Nat) (S : ab_SH) (R : ab_RR) (I : ab_II) (l : List Nat) (fs : List FA) : Prop := l.length = fs.length ∧ ∀ (i q : Nat) (F : FA), l[i]? = some q → fs[i]? = some F → sf_S n S R q ∧ sf_I I q F
def lk (es : List En) : Int32 := match es with
  | [] => cNONE
  | e :: _ => e.1
def gk (es : List En) : Int32 := match es.getLast? with
  | none => cNONE
  | some e => e.1
theorem rl_nil {s : Nat} {f : Nat → En} (h : rl s f = []) : s = 0 := by have := rl_len s f; rw [h] at this; exact this.symm
theorem lk_rl (s : Nat) (f : Nat → En) : lk (rl s f) = if 0 < s then (f 0).1 else cNONE := by
  cases s with
  | zero => rfl
  | succ s =>
    rw [if_pos (by omega)]
    unfold rl
    rw [List.range_succ_eq_map]
    rfl
theorem gk_rl (s : Nat) (f : Nat → En) : gk (rl s f) = if 0 < s then (f (s - 1)).1 else cNONE := by
  cases s with
  | zero => rfl
  | succ s =>
    rw [if_pos (by omega), rl_succ]
    unfold gk
    simp
theorem td_succ {α : Type} {l : List α} {t : Nat} {a : α} (h : l[t]? = some a) : l.take (t + 1) = l.take t ++ [a] := by
  rw [List.take_succ, h]
  rfl
theorem fd_succ {α β : Type} {f : β → α → β} {b : β} {l : List α} {t : Nat} {a : α} (h : l[t]? = some a) : (l.take (t + 1)).foldl f b = f ((l.take t).foldl f b) a := by
  rw [td_succ h, List.foldl_append]
  rfl
theorem fdd_succ {α β : Type} {f : β → α → β} {b : β} {l : List α} {t k : Nat} {a : α} (hk : k ≤ t) (h : l[t]? = some a) : ((l.take (t + 1)).drop k).foldl f b = f (((l.take t).drop k).foldl f b) a := by
  have hl := (List.getElem?_eq_some_iff.mp h).1
  rw [td_succ h, List.drop_append_of_le_length (by simp; omega), List.foldl_append]
  rfl
theorem atV_at {l : List Nat} {y : Int32} {t q : Nat} (h : y.toInt = t) (hq : l[t]? = some q) : atV l y = .ref q := by
  have hl := (List.getElem?_eq_some_iff.mp hq).1
  unfold atV
  rw [if_pos (by omega), h, Int.toNat_natCast, List.getD_eq_getElem?_getD, hq]
  rfl
section FLS
variable {n : Nat} {S : ab_SH} {R : ab_RR} {I : ab_II} {x arr cap : Nat} {l : List Nat} {r q : Nat} {F : FA} {fs : List FA}
theorem s_X5_leastKey (hS : sf_S n S R q) (hI : sf_I I q F) : wp 1 21 0 0 MX5_leastKey 0 [(0, .ref q)] [] (n, S, R, I) (fun v h => h = (n, S, R, I) ∧ v = some (.int (lk F.es))) := by
  obtain ⟨h66, o, r0, hr⟩ := hS
  obtain ⟨i1, i2, i3, hlen, f, hf, hrl⟩ := hI
  have o1 := hr.1
  first | refine wp_aload_n (pc := 0) dX5_leastKey_0 rfl ?_ | refine wp_aload_nN (pc := 0) dX5_leastKey_0 rfl ?_
  refine wp_getR (pc := 1) dX5_leastKey_1 fl_SortedFile_14 (by assumption) rfl (by assumption) ?_
  refine wp_iconst (pc := 4) (v := 0) dX5_leastKey_4 (by decide) ?_
  refine cv_SortedFile_20 (pc := 5) (s_X4_key hr hf hlen 0) rfl dX5_leastKey_5 (by assumption) ⟨by decide, by decide, Nat.zero_le _, Nat.zero_le _⟩ (Nat.le_of_ble_eq_true rfl) (fun v h hp => ?_)
  obtain ⟨rfl, rfl⟩ := hp
  refine wp_ret (pc := 8) dX5_leastKey_8 rfl (by first | trivial | exact Or.inl rfl | exact Or.inr rfl | assumption) ?_
  refine ⟨rfl, ?_⟩
  rw [← hrl, lk_rl, rl_len, rk_1]
  rw [tl_0]
  by_cases h0 : 0 < F.es.length
  · rw [if_pos ⟨by omega, by omega⟩, if_pos h0]; rfl
  · rw [if_neg (by omega), if_neg h0]
theorem s_X5_greatestKey (hS : sf_S n S R q) (hI : sf_I I q F) : wp 1 21 0 0 MX5_greatestKey 0 [(0, .ref q)] [] (n, S, R, I) (fun v h => h = (n, S, R, I) ∧ v = some (.int (gk F.es))) := by
  obtain ⟨h66, o, r0, hr⟩ := hS
  obtain ⟨i1, i2, i3, hlen, f, hf, hrl⟩ := hI
  have o1 := hr.1
  have e0 : (I (q + 1) 3 - 1).toInt = (F.es.length : Int) - 1 := by
    have e : (I (q + 1) 3).toInt = F.es.length := by rw [hf.1, tI_n (by omega)]
    rw [tI_sub (by rw [tl_1]; omega) (by rw [tl_1]; omega), tl_1, e]
  first | refine wp_aload_n (pc := 0) dX5_greatestKey_0 rfl ?_ | refine wp_aload_nN (pc := 0) dX5_greatestKey_0 rfl ?_
  refine wp_getR (pc := 1) dX5_greatestKey_1 fl_SortedFile_14 (by assumption) rfl (by assumption) ?_
  first | refine wp_aload_n (pc := 4) dX5_greatestKey_4 rfl ?_ | refine wp_aload_nN (pc := 4) dX5_greatestKey_4 rfl ?_
  refine wp_getR (pc := 5) dX5_greatestKey_5 fl_SortedFile_14 (by assumption) rfl (by assumption) ?_
  refine wp_getI (pc := 8) dX5_greatestKey_8 fl_SortedFile_24 (by assumption) rfl ?_
  refine wp_iconst (pc := 11) (v := 1) dX5_greatestKey_11 (by decide) ?_
  refine wp_isub (pc := 12) dX5_greatestKey_12 ?_
  refine cv_SortedFile_20 (pc := 13) (s_X4_key hr hf hlen _) rfl dX5_greatestKey_13 (by assumption) ⟨by decide, by decide, Nat.zero_le _, Nat.zero_le _⟩ (Nat.le_of_ble_eq_true rfl) (fun v h hp => ?_)
  obtain ⟨rfl, rfl⟩ := hp
  refine wp_ret (pc := 16) dX5_greatestKey_16 rfl (by first | trivial | exact Or.inl rfl | exact Or.inr rfl | assumption) ?_
  refine ⟨rfl, ?_⟩
  rw [← hrl, gk_rl, rl_len, rk_1, e0]
  by_cases h0 : 0 < F.es.length
  · rw [if_pos ⟨by omega, by omega⟩, if_pos h0, show ((F.es.length : Int) - 1).toNat = F.es.length - 1 by omega]
  · rw [if_neg (by omega), if_neg h0]
def mnF (m : Int32) (F : FA) : Int32 := if lk F.es < m then lk F.es else m
def mxF (m : Int32) (F : FA) : Int32 := if m < gk F.es then gk F.es else m
theorem fl_at (hFl : fl_I n S R I l fs) {t : Nat} (ht : t < l.length) : ∃ q F, l[t]? = some q ∧ fs[t]? = some F ∧ sf_S n S R q ∧ sf_I I q F := by
  have h1 : l[t]? = some l[t] := List.getElem?_eq_getElem ht
  have h2 : fs[t]? = some (fs[t]'(by rw [← hFl.1]; exact ht)) := List.getElem?_eq_getElem _
  exact ⟨_, _, h1, h2, hFl.2 t _ _ h1 h2⟩
theorem s_X1_leastKey_loop (hF : fr_S n S R r x) (hL : al_L n S R I x arr cap l) (hFl : fl_I n S R I l fs) (a b : Nat) (hb : b ≤ l.length) (w : Int32) (post : ab_Po) (hpost : post (some (.int (((fs.take b).drop a).foldl mnF 1000))) (n, S, R, I)) :
    ∀ (d t : Nat) (y m : Int32) (L5 : Value), b = t + d → a ≤ t → y = nI t → m = ((fs.take t).drop a).foldl mnF 1000 → wp 4 85 0 0 MX1_leastKey 7 [(0, .ref r), (1, .int w), (2, .int (nI b)), (3, .int m), (4, .int y)] [] (n, S, R, I) post := by
  have o := hF.1
  have hlen := hL.2.2.2.1
  have hcap := hL.2.2.2.2.1
  have eb : (nI b).toInt = b := tI_n (by omega)
  intro d
  induction d with
  | zero =>
    intro t y m L5 ht ha hy hm
    have ey : y.toInt = t := by rw [hy, tI_n (by omega)]
    refine wp_iload (pc := 7) dX1_leastKey_7 rfl ?_
    refine wp_iload_n (pc := 9) dX1_leastKey_9 rfl ?_
    refine wp_icmp_ge (pc := 10) (tgt := 42) dX1_leastKey_10 (by decide) (fun hc => ?_) (fun hc => ?_)
    · skip
      refine wp_iload_n (pc := 42) dX1_leastKey_42 rfl ?_
      refine wp_ret (pc := 43) dX1_leastKey_43 rfl (by first | trivial | exact Or.inl rfl | exact Or.inr rfl | assumption) ?_
      rw [hm, show t = b by omega]; exact hpost
    · omega
  | succ d ih =>
    intro t y m L5 ht ha hy hm
    have ey : y.toInt = t := by rw [hy, tI_n (by omega)]
    obtain ⟨q, F, hq, hFF, hS, hI⟩ := fl_at hFl (t := t) (by omega)
    have oq := hS.2.1
    refine wp_iload (pc := 7) dX1_leastKey_7 rfl ?_
    refine wp_iload_n (pc := 9) dX1_leastKey_9 rfl ?_
    refine wp_icmp_ge (pc := 10) (tgt := 42) dX1_leastKey_10 (by decide) (fun hc => ?_) (fun hc => ?_)
    · omega
    · skip
      first | refine wp_aload_n (pc := 13) dX1_leastKey_13 rfl ?_ | refine wp_aload_nN (pc := 13) dX1_leastKey_13 rfl ?_
      refine wp_iload (pc := 14) dX1_leastKey_14 rfl ?_
      refine cv_FileRow_42 (pc := 16) (s_X1_at hF hL y) rfl dX1_leastKey_16 (by assumption) ⟨by decide, by decide, Nat.zero_le _, Nat.zero_le _⟩ (Nat.le_of_ble_eq_true rfl) (fun v h hp => ?_)
      obtain ⟨rfl, rfl⟩ := hp
      rw [atV_at ey hq]
      first | refine wp_astore (pc := 19) dX1_leastKey_19 (by decide) rfl ?_ | refine wp_astoreN (pc := 19) dX1_leastKey_19 (by decide) rfl ?_
      first | refine wp_aload (pc := 21) dX1_leastKey_21 rfl ?_ | refine wp_aloadN (pc := 21) dX1_leastKey_21 rfl ?_
      refine wp_ifnull_r (pc := 23) dX1_leastKey_23 ?_
      refine wp_iload_n (pc := 26) dX1_leastKey_26 rfl ?_
      first | refine wp_aload (pc := 27) dX1_leastKey_27 rfl ?_ | refine wp_aloadN (pc := 27) dX1_leastKey_27 rfl ?_
      refine cv_FileRow_46 (pc := 29) (s_X5_leastKey hS hI) rfl dX1_leastKey_29 (by assumption) ⟨by decide, by decide, Nat.zero_le _, Nat.zero_le _⟩ (Nat.le_of_ble_eq_true rfl) (fun v h hp => ?_)
      obtain ⟨rfl, rfl⟩ := hp
      refine wp_min (pc := 32) dX1_leastKey_32 ml_FileRow_49 (by decide) (Nat.le_of_ble_eq_true rfl) ?_
      refine wp_istore_n (pc := 35) dX1_leastKey_35 (by decide) rfl ?_
      refine wp_iinc (pc := 36) dX1_leastKey_36 rfl (by decide) rfl ?_
      refine wp_goto (pc := 39) (tgt := 7) dX1_leastKey_39 (by decide) ?_
      refine wp_loc (L' := [(0, .ref r), (1, .int w), (2, .int (nI b)), (3, .int (if lk F.es < m then lk F.es else m)), (4, .int (y + Int32.ofInt 1))]) ⟨rfl, rfl, rfl, rfl, rfl, trivial⟩ ?_
      refine ih (t + 1) _ _ L5 (by omega) (by omega) (by rw [hy]; exact nI_i1 t) ?_
      rw [fdd_succ ha hFF, ← hm]
      unfold mnF
      split <;> rfl
theorem s_X1_leastKey (hF : fr_S n S R r x) (hL : al_L n S R I x arr cap l) (hFl : fl_I n S R I l fs) (a b : Nat) (hab : a ≤ b) (hb : b ≤ l.length) : wp 4 85 0 0 MX1_leastKey 0 [(0, .ref r), (1, .int (nI a)), (2, .int (nI b))] [] (n, S, R, I) (fun v h => h = (n, S, R, I) ∧ v = some (.int (((fs.take b).drop a).foldl mnF 1000))) := by
  refine wp_sipush (pc := 0) (v := 1000) dX1_leastKey_0 (by decide) ?_
  refine wp_istore_n (pc := 3) dX1_leastKey_3 (by decide) rfl ?_
  refine wp_iload_n (pc := 4) dX1_leastKey_4 rfl ?_
  refine wp_istore (pc := 5) dX1_leastKey_5 (by decide) rfl ?_
  refine wp_loc (L' := [(0, .ref r), (1, .int (nI a)), (2, .int (nI b)), (3, .int 1000), (4, .int (nI a))]) ⟨rfl, rfl, rfl, rfl, rfl, trivial⟩ ?_
  exact s_X1_leastKey_loop hF hL hFl a b hb _ _ ⟨rfl, rfl⟩ (b - a) a _ _ .null (by omega) (Nat.le_refl a) rfl (by rw [List.drop_eq_nil_of_le (by simp; omega)]; rfl)
theorem s_X1_greatestKey_loop (hF : fr_S n S R r x) (hL : al_L n S R I x arr cap l) (hFl : fl_I n S R I l fs) (a b : Nat) (hb : b ≤ l.length) (w : Int32) (post : ab_Po) (hpost : post (some (.int (((fs.take b).drop a).foldl mxF (-1)))) (n, S, R, I)) :
    ∀ (d t : Nat) (y m : Int32), b = t + d → a ≤ t → y = nI t → m = ((fs.take t).drop a).foldl mxF (-1) → wp 4 85 0 0 MX1_greatestKey 5 [(0, .ref r), (1, .int w), (2, .int (nI b)), (3, .int m), (4, .int y)] [] (n, S, R, I) post := by
  have o := hF.1
  have hlen := hL.2.2.2.1
  have hcap := hL.2.2.2.2.1
  have eb : (nI b).toInt = b := tI_n (by omega)
  intro d
  induction d with
  | zero =>
    intro t y m ht ha hy hm
    have ey : y.toInt = t := by rw [hy, tI_n (by omega)]
    refine wp_iload (pc := 5) dX1_greatestKey_5 rfl ?_
    refine wp_iload_n (pc := 7) dX1_greatestKey_7 rfl ?_
    refine wp_icmp_ge (pc := 8) (tgt := 40) dX1_greatestKey_8 (by decide) (fun hc => ?_) (fun hc => ?_)
    · skip
      refine wp_iload_n (pc := 40) dX1_greatestKey_40 rfl ?_
      refine wp_ret (pc := 41) dX1_greatestKey_41 rfl (by first | trivial | exact Or.inl rfl | exact Or.inr rfl | assumption) ?_
      rw [hm, show t = b by omega]; exact hpost
    · omega
  | succ d ih =>
    intro t y m ht ha hy hm
    have ey : y.toInt = t := by rw [hy, tI_n (by omega)]
    obtain ⟨q, F, hq, hFF, hS, hI⟩ := fl_at hFl (t := t) (by omega)
    have oq := hS.2.1
    refine wp_iload (pc := 5) dX1_greatestKey_5 rfl ?_
    refine wp_iload_n (pc := 7) dX1_greatestKey_7 rfl ?_
    refine wp_icmp_ge (pc := 8) (tgt := 40) dX1_greatestKey_8 (by decide) (fun hc => ?_) (fun hc => ?_)
    · omega
    · skip
      first | refine wp_aload_n (pc := 11) dX1_greatestKey_11 rfl ?_ | refine wp_aload_nN (pc := 11) dX1_greatestKey_11 rfl ?_
      refine wp_iload (pc := 12) dX1_greatestKey_12 rfl ?_
      refine cv_FileRow_42 (pc := 14) (s_X1_at hF hL y) rfl dX1_greatestKey_14 (by assumption) ⟨by decide, by decide, Nat.zero_le _, Nat.zero_le _⟩ (Nat.le_of_ble_eq_true rfl) (fun v h hp => ?_)
      obtain ⟨rfl, rfl⟩ := hp
      rw [atV_at ey hq]
      first | refine wp_astore (pc := 17) dX1_greatestKey_17 (by decide) rfl ?_ | refine wp_astoreN (pc := 17) dX1_greatestKey_17 (by decide) rfl ?_
      first | refine wp_aload (pc := 19) dX1_greatestKey_19 rfl ?_ | refine wp_aloadN (pc := 19) dX1_greatestKey_19 rfl ?_
      refine wp_ifnull_r (pc := 21) dX1_greatestKey_21 ?_
      refine wp_iload_n (pc := 24) dX1_greatestKey_24 rfl ?_
      first | refine wp_aload (pc := 25) dX1_greatestKey_25 rfl ?_ | refine wp_aloadN (pc := 25) dX1_greatestKey_25 rfl ?_
      refine cv_FileRow_55 (pc := 27) (s_X5_greatestKey hS hI) rfl dX1_greatestKey_27 (by assumption) ⟨by decide, by decide, Nat.zero_le _, Nat.zero_le _⟩ (Nat.le_of_ble_eq_true rfl) (fun v h hp => ?_)
      obtain ⟨rfl, rfl⟩ := hp
      refine wp_max (pc := 30) dX1_greatestKey_30 ml_FileRow_58 (by decide) (Nat.le_of_ble_eq_true rfl) ?_
      refine wp_istore_n (pc := 33) dX1_greatestKey_33 (by decide) rfl ?_
      refine wp_iinc (pc := 34) dX1_greatestKey_34 rfl (by decide) rfl ?_
      refine wp_goto (pc := 37) (tgt := 5) dX1_greatestKey_37 (by decide) ?_
      refine wp_loc (L' := [(0, .ref r), (1, .int w), (2, .int (nI b)), (3, .int (if m < gk F.es then gk F.es else m)), (4, .int (y + Int32.ofInt 1))]) ⟨rfl, rfl, rfl, rfl, rfl, trivial⟩ ?_
      refine ih (t + 1) _ _ (by omega) (by omega) (by rw [hy]; exact nI_i1 t) ?_
      rw [fdd_succ ha hFF, ← hm]
      unfold mxF
      split <;> rfl
theorem s_X1_greatestKey (hF : fr_S n S R r x) (hL : al_L n S R I x arr cap l) (hFl : fl_I n S R I l fs) (a b : Nat) (hab : a ≤ b) (hb : b ≤ l.length) : wp 4 85 0 0 MX1_greatestKey 0 [(0, .ref r), (1, .int (nI a)), (2, .int (nI b))] [] (n, S, R, I) (fun v h => h = (n, S, R, I) ∧ v = some (.int (((fs.take b).drop a).foldl mxF (-1)))) := by
  refine wp_iconst (pc := 0) (v := -1) dX1_greatestKey_0 (by decide) ?_
  refine wp_istore_n (pc := 1) dX1_greatestKey_1 (by decide) rfl ?_
  refine wp_iload_n (pc := 2) dX1_greatestKey_2 rfl ?_
  refine wp_istore (pc := 3) dX1_greatestKey_3 (by decide) rfl ?_
  refine wp_loc (L' := [(0, .ref r), (1, .int (nI a)), (2, .int (nI b)), (3, .int (-1)), (4, .int (nI a))]) ⟨rfl, rfl, rfl, rfl, rfl, trivial⟩ ?_
  exact s_X1_greatestKey_loop hF hL hFl a b hb _ _ ⟨rfl, rfl⟩ (b - a) a _ _ (by omega) (Nat.le_refl a) rfl (by rw [List.drop_eq_nil_of_le (by simp; omega)]; rfl)
abbrev eb (k : Int32) (F : FA) : Bool := decide ((gk F.es).toInt < k.toInt)
abbrev bu (k : Int32) (F : FA) : Bool := decide ((lk F.es).toInt ≤ k.toInt)
theorem cp_succ {α : Type} {p : α → Bool} {l : List α} {t : Nat} {a : α} (h : l[t]? = some a) : (l.take (t + 1)).countP p = (l.take t).countP p + if p a then 1 else 0 := by
  rw [td_succ h, List.countP_append]
  simp [List.countP_cons]
theorem s_X1_howManyEndBelow_loop (hF : fr_S n S R r x) (hL : al_L n S R I x arr cap l) (hFl : fl_I n S R I l fs) (k : Int32) (post : ab_Po) (hpost : post (some (.int (nI (fs.countP (eb k))))) (n, S, R, I)) :
    ∀ (d t : Nat) (y m : Int32), l.length = t + d → y = nI t → m = nI ((fs.take t).countP (eb k)) → wp 4 85 0 0 MX1_howManyEndBelow 4 [(0, .ref r), (1, .int k), (2, .int m), (3, .int y)] [] (n, S, R, I) post := by
  have o := hF.1
  have q0 := hF.2
  have o0 := hL.1
  have hlen := hL.2.2.2.1
  have hcap := hL.2.2.2.2.1
  have e0 : (nI l.length).toInt = l.length := tI_n (by omega)
  intro d
  induction d with
  | zero =>
    intro t y m ht hy hm
    have ey : y.toInt = t := by rw [hy, tI_n (by omega)]
    refine wp_iload_n (pc := 4) dX1_howManyEndBelow_4 rfl ?_
    first | refine wp_aload_n (pc := 5) dX1_howManyEndBelow_5 rfl ?_ | refine wp_aload_nN (pc := 5) dX1_howManyEndBelow_5 rfl ?_
    refine wp_getR (pc := 6) dX1_howManyEndBelow_6 fl_FileRow_12 (by assumption) rfl (by assumption) ?_
    refine cv_FileRow_18 (pc := 9) (s_size hL) rfl dX1_howManyEndBelow_9 (by assumption) ⟨by decide, by decide, Nat.zero_le _, Nat.zero_le _⟩ (Nat.le_of_ble_eq_true rfl) (fun v h hp => ?_)
    obtain ⟨rfl, rfl⟩ := hp
    refine wp_icmp_ge (pc := 12) (tgt := 45) dX1_howManyEndBelow_12 (by decide) (fun hc => ?_) (fun hc => ?_)
    · skip
      refine wp_iload_n (pc := 45) dX1_howManyEndBelow_45 rfl ?_
      refine wp_ret (pc := 46) dX1_howManyEndBelow_46 rfl (by first | trivial | exact Or.inl rfl | exact Or.inr rfl | assumption) ?_
      rw [hm, List.take_of_length_le (by rw [← hFl.1]; omega)]; exact hpost
    · omega
  | succ d ih =>
    intro t y m ht hy hm
    have ey : y.toInt = t := by rw [hy, tI_n (by omega)]
    obtain ⟨q, F, hq, hFF, hS, hI⟩ := fl_at hFl (t := t) (by omega)
    have oq := hS.2.1
    refine wp_iload_n (pc := 4) dX1_howManyEndBelow_4 rfl ?_
    first | refine wp_aload_n (pc := 5) dX1_howManyEndBelow_5 rfl ?_ | refine wp_aload_nN (pc := 5) dX1_howManyEndBelow_5 rfl ?_
    refine wp_getR (pc := 6) dX1_howManyEndBelow_6 fl_FileRow_12 (by assumption) rfl (by assumption) ?_
    refine cv_FileRow_18 (pc := 9) (s_size hL) rfl dX1_howManyEndBelow_9 (by assumption) ⟨by decide, by decide, Nat.zero_le _, Nat.zero_le _⟩ (Nat.le_of_ble_eq_true rfl) (fun v h hp => ?_)
    obtain ⟨rfl, rfl⟩ := hp
    refine wp_icmp_ge (pc := 12) (tgt := 45) dX1_howManyEndBelow_12 (by decide) (fun hc => ?_) (fun hc => ?_)
    · omega
    · skip
      first | refine wp_aload_n (pc := 15) dX1_howManyEndBelow_15 rfl ?_ | refine wp_aload_nN (pc := 15) dX1_howManyEndBelow_15 rfl ?_
      refine wp_iload_n (pc := 16) dX1_howManyEndBelow_16 rfl ?_
      refine cv_FileRow_42 (pc := 17) (s_X1_at hF hL y) rfl dX1_howManyEndBelow_17 (by assumption) ⟨by decide, by decide, Nat.zero_le _, Nat.zero_le _⟩ (Nat.le_of_ble_eq_true rfl) (fun v h hp => ?_)
      obtain ⟨rfl, rfl⟩ := hp
      rw [atV_at ey hq]
      first | refine wp_astore (pc := 20) dX1_howManyEndBelow_20 (by decide) rfl ?_ | refine wp_astoreN (pc := 20) dX1_howManyEndBelow_20 (by decide) rfl ?_
      first | refine wp_aload (pc := 22) dX1_howManyEndBelow_22 rfl ?_ | refine wp_aloadN (pc := 22) dX1_howManyEndBelow_22 rfl ?_
      refine wp_ifnull_r (pc := 24) dX1_howManyEndBelow_24 ?_
      first | refine wp_aload (pc := 27) dX1_howManyEndBelow_27 rfl ?_ | refine wp_aloadN (pc := 27) dX1_howManyEndBelow_27 rfl ?_
      refine cv_FileRow_55 (pc := 29) (s_X5_greatestKey hS hI) rfl dX1_howManyEndBelow_29 (by assumption) ⟨by decide, by decide, Nat.zero_le _, Nat.zero_le _⟩ (Nat.le_of_ble_eq_true rfl) (fun v h hp => ?_)
      obtain ⟨rfl, rfl⟩ := hp
      refine wp_iload_n (pc := 32) dX1_howManyEndBelow_32 rfl ?_
      refine wp_icmp_ge (pc := 33) (tgt := 39) dX1_howManyEndBelow_33 (by decide) (fun hc => ?_) (fun hc => ?_)
      · have hcc : eb k F = false := by simp [eb]; omega
        refine wp_iinc (pc := 39) dX1_howManyEndBelow_39 rfl (by decide) rfl ?_
        refine wp_goto (pc := 42) (tgt := 4) dX1_howManyEndBelow_42 (by decide) ?_
        first
        | (refine wp_loc (L' := [(0, .ref r), (1, .int k), (2, .int (m + Int32.ofInt 1)), (3, .int (y + Int32.ofInt 1))]) ⟨rfl, rfl, rfl, rfl, trivial⟩ ?_
           refine ih (t + 1) _ _ (by omega) (by rw [hy]; exact nI_i1 t) ?_
           rw [cp_succ hFF, hcc, hm]
           exact nI_i1 _)
        | (refine wp_loc (L' := [(0, .ref r), (1, .int k), (2, .int m), (3, .int (y + Int32.ofInt 1))]) ⟨rfl, rfl, rfl, rfl, trivial⟩ ?_
           refine ih (t + 1) _ _ (by omega) (by rw [hy]; exact nI_i1 t) ?_
           rw [cp_succ hFF, hcc, hm]
           rfl)
      · have hcc : eb k F = true := by simp [eb]; omega
        refine wp_iinc (pc := 36) dX1_howManyEndBelow_36 rfl (by decide) rfl ?_
        refine wp_iinc (pc := 39) dX1_howManyEndBelow_39 rfl (by decide) rfl ?_
        refine wp_goto (pc := 42) (tgt := 4) dX1_howManyEndBelow_42 (by decide) ?_
        first
        | (refine wp_loc (L' := [(0, .ref r), (1, .int k), (2, .int (m + Int32.ofInt 1)), (3, .int (y + Int32.ofInt 1))]) ⟨rfl, rfl, rfl, rfl, trivial⟩ ?_
           refine ih (t + 1) _ _ (by omega) (by rw [hy]; exact nI_i1 t) ?_
           rw [cp_succ hFF, hcc, hm]
           exact nI_i1 _)
        | (refine wp_loc (L' := [(0, .ref r), (1, .int k), (2, .int m), (3, .int (y + Int32.ofInt 1))]) ⟨rfl, rfl, rfl, rfl, trivial⟩ ?_
           refine ih (t + 1) _ _ (by omega) (by rw [hy]; exact nI_i1 t) ?_
           rw [cp_succ hFF, hcc, hm]
           rfl)
theorem s_X1_howManyEndBelow (hF : fr_S n S R r x) (hL : al_L n S R I x arr cap l) (hFl : fl_I n S R I l fs) (k : Int32) : wp 4 85 0 0 MX1_howManyEndBelow 0 [(0, .ref r), (1, .int k)] [] (n, S, R, I) (fun v h => h = (n, S, R, I) ∧ v = some (.int (nI (fs.countP (eb k))))) := by
  refine wp_iconst (pc := 0) (v := 0) dX1_howManyEndBelow_0 (by decide) ?_
  refine wp_istore_n (pc := 1) dX1_howManyEndBelow_1 (by decide) rfl ?_
  refine wp_iconst (pc := 2) (v := 0) dX1_howManyEndBelow_2 (by decide) ?_
  refine wp_istore_n (pc := 3) dX1_howManyEndBelow_3 (by decide) rfl ?_
  refine wp_loc (L' := [(0, .ref r), (1, .int k), (2, .int 0), (3, .int 0)]) ⟨rfl, rfl, rfl, rfl, trivial⟩ ?_
  exact s_X1_howManyEndBelow_loop hF hL hFl k _ ⟨rfl, rfl⟩ l.length 0 _ _ (by omega) rfl rfl
theorem s_X1_howManyBeginUpTo_loop (hF : fr_S n S R r x) (hL : al_L n S R I x arr cap l) (hFl : fl_I n S R I l fs) (k : Int32) (post : ab_Po) (hpost : post (some (.int (nI (fs.countP (bu k))))) (n, S, R, I)) :
    ∀ (d t : Nat) (y m : Int32), l.length = t + d → y = nI t → m = nI ((fs.take t).countP (bu k)) → wp 4 85 0 0 MX1_howManyBeginUpTo 4 [(0, .ref r), (1, .int k), (2, .int m), (3, .int y)] [] (n, S, R, I) post := by
  have o := hF.1
  have q0 := hF.2
  have o0 := hL.1
  have hlen := hL.2.2.2.1
  have hcap := hL.2.2.2.2.1
  have e0 : (nI l.length).toInt = l.length := tI_n (by omega)
  intro d
  induction d with
  | zero =>
    intro t y m ht hy hm
    have ey : y.toInt = t := by rw [hy, tI_n (by omega)]
    refine wp_iload_n (pc := 4) dX1_howManyBeginUpTo_4 rfl ?_
    first | refine wp_aload_n (pc := 5) dX1_howManyBeginUpTo_5 rfl ?_ | refine wp_aload_nN (pc := 5) dX1_howManyBeginUpTo_5 rfl ?_
    refine wp_getR (pc := 6) dX1_howManyBeginUpTo_6 fl_FileRow_12 (by assumption) rfl (by assumption) ?_
    refine cv_FileRow_18 (pc := 9) (s_size hL) rfl dX1_howManyBeginUpTo_9 (by assumption) ⟨by decide, by decide, Nat.zero_le _, Nat.zero_le _⟩ (Nat.le_of_ble_eq_true rfl) (fun v h hp => ?_)
    obtain ⟨rfl, rfl⟩ := hp
    refine wp_icmp_ge (pc := 12) (tgt := 45) dX1_howManyBeginUpTo_12 (by decide) (fun hc => ?_) (fun hc => ?_)
    · skip
      refine wp_iload_n (pc := 45) dX1_howManyBeginUpTo_45 rfl ?_
      refine wp_ret (pc := 46) dX1_howManyBeginUpTo_46 rfl (by first | trivial | exact Or.inl rfl | exact Or.inr rfl | assumption) ?_
      rw [hm, List.take_of_length_le (by rw [← hFl.1]; omega)]; exact hpost
    · omega
  | succ d ih =>
    intro t y m ht hy hm
    have ey : y.toInt = t := by rw [hy, tI_n (by omega)]
    obtain ⟨q, F, hq, hFF, hS, hI⟩ := fl_at hFl (t := t) (by omega)
    have oq := hS.2.1
    refine wp_iload_n (pc := 4) dX1_howManyBeginUpTo_4 rfl ?_
    first | refine wp_aload_n (pc := 5) dX1_howManyBeginUpTo_5 rfl ?_ | refine wp_aload_nN (pc := 5) dX1_howManyBeginUpTo_5 rfl ?_
    refine wp_getR (pc := 6) dX1_howManyBeginUpTo_6 fl_FileRow_12 (by assumption) rfl (by assumption) ?_
    refine cv_FileRow_18 (pc := 9) (s_size hL) rfl dX1_howManyBeginUpTo_9 (by assumption) ⟨by decide, by decide, Nat.zero_le _, Nat.zero_le _⟩ (Nat.le_of_ble_eq_true rfl) (fun v h hp => ?_)
    obtain ⟨rfl, rfl⟩ := hp
    refine wp_icmp_ge (pc := 12) (tgt := 45) dX1_howManyBeginUpTo_12 (by decide) (fun hc => ?_) (fun hc => ?_)
    · omega
    · skip
      first | refine wp_aload_n (pc := 15) dX1_howManyBeginUpTo_15 rfl ?_ | refine wp_aload_nN (pc := 15) dX1_howManyBeginUpTo_15 rfl ?_
      refine wp_iload_n (pc := 16) dX1_howManyBeginUpTo_16 rfl ?_
      refine cv_FileRow_42 (pc := 17) (s_X1_at hF hL y) rfl dX1_howManyBeginUpTo_17 (by assumption) ⟨by decide, by decide, Nat.zero_le _, Nat.zero_le _⟩ (Nat.le_of_ble_eq_true rfl) (fun v h hp => ?_)
      obtain ⟨rfl, rfl⟩ := hp
      rw [atV_at ey hq]
      first | refine wp_astore (pc := 20) dX1_howManyBeginUpTo_20 (by decide) rfl ?_ | refine wp_astoreN (pc := 20) dX1_howManyBeginUpTo_20 (by decide) rfl ?_
      first | refine wp_aload (pc := 22) dX1_howManyBeginUpTo_22 rfl ?_ | refine wp_aloadN (pc := 22) dX1_howManyBeginUpTo_22 rfl ?_
      refine wp_ifnull_r (pc := 24) dX1_howManyBeginUpTo_24 ?_
      first | refine wp_aload (pc := 27) dX1_howManyBeginUpTo_27 rfl ?_ | refine wp_aloadN (pc := 27) dX1_howManyBeginUpTo_27 rfl ?_
      refine cv_FileRow_46 (pc := 29) (s_X5_leastKey hS hI) rfl dX1_howManyBeginUpTo_29 (by assumption) ⟨by decide, by decide, Nat.zero_le _, Nat.zero_le _⟩ (Nat.le_of_ble_eq_true rfl) (fun v h hp => ?_)
      obtain ⟨rfl, rfl⟩ := hp
      refine wp_iload_n (pc := 32) dX1_howManyBeginUpTo_32 rfl ?_
      refine wp_icmp_gt (pc := 33) (tgt := 39) dX1_howManyBeginUpTo_33 (by decide) (fun hc => ?_) (fun hc => ?_)
      · have hcc : bu k F = false := by simp [bu]; omega
        refine wp_iinc (pc := 39) dX1_howManyBeginUpTo_39 rfl (by decide) rfl ?_
        refine wp_goto (pc := 42) (tgt := 4) dX1_howManyBeginUpTo_42 (by decide) ?_
        first
        | (refine wp_loc (L' := [(0, .ref r), (1, .int k), (2, .int (m + Int32.ofInt 1)), (3, .int (y + Int32.ofInt 1))]) ⟨rfl, rfl, rfl, rfl, trivial⟩ ?_
           refine ih (t + 1) _ _ (by omega) (by rw [hy]; exact nI_i1 t) ?_
           rw [cp_succ hFF, hcc, hm]
           exact nI_i1 _)
        | (refine wp_loc (L' := [(0, .ref r), (1, .int k), (2, .int m), (3, .int (y + Int32.ofInt 1))]) ⟨rfl, rfl, rfl, rfl, trivial⟩ ?_
           refine ih (t + 1) _ _ (by omega) (by rw [hy]; exact nI_i1 t) ?_
           rw [cp_succ hFF, hcc, hm]
           rfl)
      · have hcc : bu k F = true := by simp [bu]; omega
        refine wp_iinc (pc := 36) dX1_howManyBeginUpTo_36 rfl (by decide) rfl ?_
        refine wp_iinc (pc := 39) dX1_howManyBeginUpTo_39 rfl (by decide) rfl ?_
        refine wp_goto (pc := 42) (tgt := 4) dX1_howManyBeginUpTo_42 (by decide) ?_
        first
        | (refine wp_loc (L' := [(0, .ref r), (1, .int k), (2, .int (m + Int32.ofInt 1)), (3, .int (y + Int32.ofInt 1))]) ⟨rfl, rfl, rfl, rfl, trivial⟩ ?_
           refine ih (t + 1) _ _ (by omega) (by rw [hy]; exact nI_i1 t) ?_
           rw [cp_succ hFF, hcc, hm]
           exact nI_i1 _)
        | (refine wp_loc (L' := [(0, .ref r), (1, .int k), (2, .int m), (3, .int (y + Int32.ofInt 1))]) ⟨rfl, rfl, rfl, rfl, trivial⟩ ?_
           refine ih (t + 1) _ _ (by omega) (by rw [hy]; exact nI_i1 t) ?_
           rw [cp_succ hFF, hcc, hm]
           rfl)
theorem s_X1_howManyBeginUpTo (hF : fr_S n S R r x) (hL : al_L n S R I x arr cap l) (hFl : fl_I n S R I l fs) (k : Int32) : wp 4 85 0 0 MX1_howManyBeginUpTo 0 [(0, .ref r), (1, .int k)] [] (n, S, R, I) (fun v h => h = (n, S, R, I) ∧ v = some (.int (nI (fs.countP (bu k))))) := by
  refine wp_iconst (pc := 0) (v := 0) dX1_howManyBeginUpTo_0 (by decide) ?_
  refine wp_istore_n (pc := 1) dX1_howManyBeginUpTo_1 (by decide) rfl ?_
  refine wp_iconst (pc := 2) (v := 0) dX1_howManyBeginUpTo_2 (by decide) ?_
  refine wp_istore_n (pc := 3) dX1_howManyBeginUpTo_3 (by decide) rfl ?_
  refine wp_loc (L' := [(0, .ref r), (1, .int k), (2, .int 0), (3, .int 0)]) ⟨rfl, rfl, rfl, rfl, trivial⟩ ?_
  exact s_X1_howManyBeginUpTo_loop hF hL hFl k _ ⟨rfl, rfl⟩ l.length 0 _ _ (by omega) rfl rfl
def smB (m : Int32) (F : FA) : Int32 := m + F.2.2.1
def smE (m : Int32) (F : FA) : Int32 := m + nI F.es.length
def mxN (m : Int32) (F : FA) : Int32 := if m < gN 0 F.es then gN 0 F.es else m
theorem s_X1_bytes_loop (hF : fr_S n S R r x) (hL : al_L n S R I x arr cap l) (hFl : fl_I n S R I l fs) (post : ab_Po) (hpost : post (some (.int (fs.foldl smB 0))) (n, S, R, I)) :
    ∀ (d t : Nat) (y m : Int32), l.length = t + d → y = nI t → m = (fs.take t).foldl smB 0 → wp 4 85 0 0 MX1_bytes 4 [(0, .ref r), (1, .int m), (2, .int y)] [] (n, S, R, I) post := by
  have o := hF.1
  have q0 := hF.2
  have o0 := hL.1
  have hlen := hL.2.2.2.1
  have hcap := hL.2.2.2.2.1
  have e0 : (nI l.length).toInt = l.length := tI_n (by omega)
  intro d
  induction d with
  | zero =>
    intro t y m ht hy hm
    have ey : y.toInt = t := by rw [hy, tI_n (by omega)]
    refine wp_iload_n (pc := 4) dX1_bytes_4 rfl ?_
    first | refine wp_aload_n (pc := 5) dX1_bytes_5 rfl ?_ | refine wp_aload_nN (pc := 5) dX1_bytes_5 rfl ?_
    refine wp_getR (pc := 6) dX1_bytes_6 fl_FileRow_12 (by assumption) rfl (by assumption) ?_
    refine cv_FileRow_18 (pc := 9) (s_size hL) rfl dX1_bytes_9 (by assumption) ⟨by decide, by decide, Nat.zero_le _, Nat.zero_le _⟩ (Nat.le_of_ble_eq_true rfl) (fun v h hp => ?_)
    obtain ⟨rfl, rfl⟩ := hp
    refine wp_icmp_ge (pc := 12) (tgt := 42) dX1_bytes_12 (by decide) (fun hc => ?_) (fun hc => ?_)
    · skip
      refine wp_iload_n (pc := 42) dX1_bytes_42 rfl ?_
      refine wp_ret (pc := 43) dX1_bytes_43 rfl (by first | trivial | exact Or.inl rfl | exact Or.inr rfl | assumption) ?_
      rw [hm, List.take_of_length_le (by rw [← hFl.1]; omega)]; exact hpost
    · omega
  | succ d ih =>
    intro t y m ht hy hm
    have ey : y.toInt = t := by rw [hy, tI_n (by omega)]
    obtain ⟨q, F, hq, hFF, hS, hI⟩ := fl_at hFl (t := t) (by omega)
    have oq := hS.2.1
    refine wp_iload_n (pc := 4) dX1_bytes_4 rfl ?_
    first | refine wp_aload_n (pc := 5) dX1_bytes_5 rfl ?_ | refine wp_aload_nN (pc := 5) dX1_bytes_5 rfl ?_
    refine wp_getR (pc := 6) dX1_bytes_6 fl_FileRow_12 (by assumption) rfl (by assumption) ?_
    refine cv_FileRow_18 (pc := 9) (s_size hL) rfl dX1_bytes_9 (by assumption) ⟨by decide, by decide, Nat.zero_le _, Nat.zero_le _⟩ (Nat.le_of_ble_eq_true rfl) (fun v h hp => ?_)
    obtain ⟨rfl, rfl⟩ := hp
    refine wp_icmp_ge (pc := 12) (tgt := 42) dX1_bytes_12 (by decide) (fun hc => ?_) (fun hc => ?_)
    · omega
    · skip
      first | refine wp_aload_n (pc := 15) dX1_bytes_15 rfl ?_ | refine wp_aload_nN (pc := 15) dX1_bytes_15 rfl ?_
      refine wp_iload_n (pc := 16) dX1_bytes_16 rfl ?_
      refine cv_FileRow_42 (pc := 17) (s_X1_at hF hL y) rfl dX1_bytes_17 (by assumption) ⟨by decide, by decide, Nat.zero_le _, Nat.zero_le _⟩ (Nat.le_of_ble_eq_true rfl) (fun v h hp => ?_)
      obtain ⟨rfl, rfl⟩ := hp
      rw [atV_at ey hq]
      first | refine wp_astore_n (pc := 20) dX1_bytes_20 (by decide) rfl ?_ | refine wp_astore_nN (pc := 20) dX1_bytes_20 (by decide) rfl ?_
      refine wp_iload_n (pc := 21) dX1_bytes_21 rfl ?_
      first | refine wp_aload_n (pc := 22) dX1_bytes_22 rfl ?_ | refine wp_aload_nN (pc := 22) dX1_bytes_22 rfl ?_
      refine wp_ifnonnull_r (pc := 23) (tgt := 30) dX1_bytes_23 (by decide) ?_
      first | refine wp_aload_n (pc := 30) dX1_bytes_30 rfl ?_ | refine wp_aload_nN (pc := 30) dX1_bytes_30 rfl ?_
      refine wp_getI (pc := 31) dX1_bytes_31 fl_FileRow_80 (by assumption) rfl ?_
      refine wp_iadd (pc := 34) dX1_bytes_34 ?_
      refine wp_istore_n (pc := 35) dX1_bytes_35 (by decide) rfl ?_
      refine wp_iinc (pc := 36) dX1_bytes_36 rfl (by decide) rfl ?_
      refine wp_goto (pc := 39) (tgt := 4) dX1_bytes_39 (by decide) ?_
      refine wp_loc (L' := [(0, .ref r), (1, .int (m + I q 3)), (2, .int (y + Int32.ofInt 1))]) ⟨rfl, rfl, rfl, trivial⟩ ?_
      refine ih (t + 1) _ _ (by omega) (by rw [hy]; exact nI_i1 t) ?_
      rw [fd_succ hFF, ← hm, hI.2.2.1]
      rfl
theorem s_X1_bytes (hF : fr_S n S R r x) (hL : al_L n S R I x arr cap l) (hFl : fl_I n S R I l fs) : wp 4 85 0 0 MX1_bytes 0 [(0, .ref r)] [] (n, S, R, I) (fun v h => h = (n, S, R, I) ∧ v = some (.int (fs.foldl smB 0))) := by
  refine wp_iconst (pc := 0) (v := 0) dX1_bytes_0 (by decide) ?_
  refine wp_istore_n (pc := 1) dX1_bytes_1 (by decide) rfl ?_
  refine wp_iconst (pc := 2) (v := 0) dX1_bytes_2 (by decide) ?_
  refine wp_istore_n (pc := 3) dX1_bytes_3 (by decide) rfl ?_
  refine wp_loc (L' := [(0, .ref r), (1, .int 0), (2, .int 0)]) ⟨rfl, rfl, rfl, trivial⟩ ?_
  exact s_X1_bytes_loop hF hL hFl _ ⟨rfl, rfl⟩ l.length 0 _ _ (by omega) rfl rfl
theorem s_X1_entries_loop (hF : fr_S n S R r x) (hL : al_L n S R I x arr cap l) (hFl : fl_I n S R I l fs) (post : ab_Po) (hpost : post (some (.int (fs.foldl smE 0))) (n, S, R, I)) :
    ∀ (d t : Nat) (y m : Int32), l.length = t + d → y = nI t → m = (fs.take t).foldl smE 0 → wp 4 85 0 0 MX1_entries 4 [(0, .ref r), (1, .int m), (2, .int y)] [] (n, S, R, I) post := by
  have o := hF.1
  have q0 := hF.2
  have o0 := hL.1
  have hlen := hL.2.2.2.1
  have hcap := hL.2.2.2.2.1
  have e0 : (nI l.length).toInt = l.length := tI_n (by omega)
  intro d
  induction d with
  | zero =>
    intro t y m ht hy hm
    have ey : y.toInt = t := by rw [hy, tI_n (by omega)]
    refine wp_iload_n (pc := 4) dX1_entries_4 rfl ?_
    first | refine wp_aload_n (pc := 5) dX1_entries_5 rfl ?_ | refine wp_aload_nN (pc := 5) dX1_entries_5 rfl ?_
    refine wp_getR (pc := 6) dX1_entries_6 fl_FileRow_12 (by assumption) rfl (by assumption) ?_
    refine cv_FileRow_18 (pc := 9) (s_size hL) rfl dX1_entries_9 (by assumption) ⟨by decide, by decide, Nat.zero_le _, Nat.zero_le _⟩ (Nat.le_of_ble_eq_true rfl) (fun v h hp => ?_)
    obtain ⟨rfl, rfl⟩ := hp
    refine wp_icmp_ge (pc := 12) (tgt := 45) dX1_entries_12 (by decide) (fun hc => ?_) (fun hc => ?_)
    · skip
      refine wp_iload_n (pc := 45) dX1_entries_45 rfl ?_
      refine wp_ret (pc := 46) dX1_entries_46 rfl (by first | trivial | exact Or.inl rfl | exact Or.inr rfl | assumption) ?_
      rw [hm, List.take_of_length_le (by rw [← hFl.1]; omega)]; exact hpost
    · omega
  | succ d ih =>
    intro t y m ht hy hm
    have ey : y.toInt = t := by rw [hy, tI_n (by omega)]
    obtain ⟨q, F, hq, hFF, hS, hI⟩ := fl_at hFl (t := t) (by omega)
    have oq := hS.2.1
    have rq := hS.2.2.1
    have oq1 := hS.2.2.2.1
    refine wp_iload_n (pc := 4) dX1_entries_4 rfl ?_
    first | refine wp_aload_n (pc := 5) dX1_entries_5 rfl ?_ | refine wp_aload_nN (pc := 5) dX1_entries_5 rfl ?_
    refine wp_getR (pc := 6) dX1_entries_6 fl_FileRow_12 (by assumption) rfl (by assumption) ?_
    refine cv_FileRow_18 (pc := 9) (s_size hL) rfl dX1_entries_9 (by assumption) ⟨by decide, by decide, Nat.zero_le _, Nat.zero_le _⟩ (Nat.le_of_ble_eq_true rfl) (fun v h hp => ?_)
    obtain ⟨rfl, rfl⟩ := hp
    refine wp_icmp_ge (pc := 12) (tgt := 45) dX1_entries_12 (by decide) (fun hc => ?_) (fun hc => ?_)
    · omega
    · skip
      first | refine wp_aload_n (pc := 15) dX1_entries_15 rfl ?_ | refine wp_aload_nN (pc := 15) dX1_entries_15 rfl ?_
      refine wp_iload_n (pc := 16) dX1_entries_16 rfl ?_
      refine cv_FileRow_42 (pc := 17) (s_X1_at hF hL y) rfl dX1_entries_17 (by assumption) ⟨by decide, by decide, Nat.zero_le _, Nat.zero_le _⟩ (Nat.le_of_ble_eq_true rfl) (fun v h hp => ?_)
      obtain ⟨rfl, rfl⟩ := hp
      rw [atV_at ey hq]
      first | refine wp_astore_n (pc := 20) dX1_entries_20 (by decide) rfl ?_ | refine wp_astore_nN (pc := 20) dX1_entries_20 (by decide) rfl ?_
      refine wp_iload_n (pc := 21) dX1_entries_21 rfl ?_
      first | refine wp_aload_n (pc := 22) dX1_entries_22 rfl ?_ | refine wp_aload_nN (pc := 22) dX1_entries_22 rfl ?_
      refine wp_ifnonnull_r (pc := 23) (tgt := 30) dX1_entries_23 (by decide) ?_
      first | refine wp_aload_n (pc := 30) dX1_entries_30 rfl ?_ | refine wp_aload_nN (pc := 30) dX1_entries_30 rfl ?_
      refine wp_getR (pc := 31) dX1_entries_31 fl_FileRow_61 (by assumption) rfl (by assumption) ?_
      refine wp_getI (pc := 34) dX1_entries_34 fl_FileRow_84 (by assumption) rfl ?_
      refine wp_iadd (pc := 37) dX1_entries_37 ?_
      refine wp_istore_n (pc := 38) dX1_entries_38 (by decide) rfl ?_
      refine wp_iinc (pc := 39) dX1_entries_39 rfl (by decide) rfl ?_
      refine wp_goto (pc := 42) (tgt := 4) dX1_entries_42 (by decide) ?_
      refine wp_loc (L' := [(0, .ref r), (1, .int (m + I (q + 1) 3)), (2, .int (y + Int32.ofInt 1))]) ⟨rfl, rfl, rfl, trivial⟩ ?_
      refine ih (t + 1) _ _ (by omega) (by rw [hy]; exact nI_i1 t) ?_
      obtain ⟨-, -, -, -, f, hf, -⟩ := hI
      rw [fd_succ hFF, ← hm, hf.1]
      rfl
theorem s_X1_entries (hF : fr_S n S R r x) (hL : al_L n S R I x arr cap l) (hFl : fl_I n S R I l fs) : wp 4 85 0 0 MX1_entries 0 [(0, .ref r)] [] (n, S, R, I) (fun v h => h = (n, S, R, I) ∧ v = some (.int (fs.foldl smE 0))) := by
  refine wp_iconst (pc := 0) (v := 0) dX1_entries_0 (by decide) ?_
  refine wp_istore_n (pc := 1) dX1_entries_1 (by decide) rfl ?_
  refine wp_iconst (pc := 2) (v := 0) dX1_entries_2 (by decide) ?_
  refine wp_istore_n (pc := 3) dX1_entries_3 (by decide) rfl ?_
  refine wp_loc (L' := [(0, .ref r), (1, .int 0), (2, .int 0)]) ⟨rfl, rfl, rfl, trivial⟩ ?_
  exact s_X1_entries_loop hF hL hFl _ ⟨rfl, rfl⟩ l.length 0 _ _ (by omega) rfl rfl
theorem s_X1_greatestNumber_loop (hF : fr_S n S R r x) (hL : al_L n S R I x arr cap l) (hFl : fl_I n S R I l fs) (post : ab_Po) (hpost : post (some (.int (fs.foldl mxN 0))) (n, S, R, I)) :
    ∀ (d t : Nat) (y m : Int32), l.length = t + d → y = nI t → m = (fs.take t).foldl mxN 0 → wp 4 85 0 0 MX1_greatestNumber 4 [(0, .ref r), (1, .int m), (2, .int y)] [] (n, S, R, I) post := by
  have o := hF.1
  have q0 := hF.2
  have o0 := hL.1
  have hlen := hL.2.2.2.1
  have hcap := hL.2.2.2.2.1
  have e0 : (nI l.length).toInt = l.length := tI_n (by omega)
  intro d
  induction d with
  | zero =>
    intro t y m ht hy hm
    have ey : y.toInt = t := by rw [hy, tI_n (by omega)]
    refine wp_iload_n (pc := 4) dX1_greatestNumber_4 rfl ?_
    first | refine wp_aload_n (pc := 5) dX1_greatestNumber_5 rfl ?_ | refine wp_aload_nN (pc := 5) dX1_greatestNumber_5 rfl ?_
    refine wp_getR (pc := 6) dX1_greatestNumber_6 fl_FileRow_12 (by assumption) rfl (by assumption) ?_
    refine cv_FileRow_18 (pc := 9) (s_size hL) rfl dX1_greatestNumber_9 (by assumption) ⟨by decide, by decide, Nat.zero_le _, Nat.zero_le _⟩ (Nat.le_of_ble_eq_true rfl) (fun v h hp => ?_)
    obtain ⟨rfl, rfl⟩ := hp
    refine wp_icmp_ge (pc := 12) (tgt := 43) dX1_greatestNumber_12 (by decide) (fun hc => ?_) (fun hc => ?_)
    · skip
      refine wp_iload_n (pc := 43) dX1_greatestNumber_43 rfl ?_
      refine wp_ret (pc := 44) dX1_greatestNumber_44 rfl (by first | trivial | exact Or.inl rfl | exact Or.inr rfl | assumption) ?_
      rw [hm, List.take_of_length_le (by rw [← hFl.1]; omega)]; exact hpost
    · omega
  | succ d ih =>
    intro t y m ht hy hm
    have ey : y.toInt = t := by rw [hy, tI_n (by omega)]
    obtain ⟨q, F, hq, hFF, hS, hI⟩ := fl_at hFl (t := t) (by omega)
    have oq := hS.2.1
    have rq := hS.2.2.1
    have oq1 := hS.2.2.2.1
    obtain ⟨-, -, -, hle, f, hf, hrl⟩ := hI
    refine wp_iload_n (pc := 4) dX1_greatestNumber_4 rfl ?_
    first | refine wp_aload_n (pc := 5) dX1_greatestNumber_5 rfl ?_ | refine wp_aload_nN (pc := 5) dX1_greatestNumber_5 rfl ?_
    refine wp_getR (pc := 6) dX1_greatestNumber_6 fl_FileRow_12 (by assumption) rfl (by assumption) ?_
    refine cv_FileRow_18 (pc := 9) (s_size hL) rfl dX1_greatestNumber_9 (by assumption) ⟨by decide, by decide, Nat.zero_le _, Nat.zero_le _⟩ (Nat.le_of_ble_eq_true rfl) (fun v h hp => ?_)
    obtain ⟨rfl, rfl⟩ := hp
    refine wp_icmp_ge (pc := 12) (tgt := 43) dX1_greatestNumber_12 (by decide) (fun hc => ?_) (fun hc => ?_)
    · omega
    · skip
      first | refine wp_aload_n (pc := 15) dX1_greatestNumber_15 rfl ?_ | refine wp_aload_nN (pc := 15) dX1_greatestNumber_15 rfl ?_
      refine wp_iload_n (pc := 16) dX1_greatestNumber_16 rfl ?_
      refine cv_FileRow_42 (pc := 17) (s_X1_at hF hL y) rfl dX1_greatestNumber_17 (by assumption) ⟨by decide, by decide, Nat.zero_le _, Nat.zero_le _⟩ (Nat.le_of_ble_eq_true rfl) (fun v h hp => ?_)
      obtain ⟨rfl, rfl⟩ := hp
      rw [atV_at ey hq]
      first | refine wp_astore_n (pc := 20) dX1_greatestNumber_20 (by decide) rfl ?_ | refine wp_astore_nN (pc := 20) dX1_greatestNumber_20 (by decide) rfl ?_
      first | refine wp_aload_n (pc := 21) dX1_greatestNumber_21 rfl ?_ | refine wp_aload_nN (pc := 21) dX1_greatestNumber_21 rfl ?_
      refine wp_ifnull_r (pc := 22) dX1_greatestNumber_22 ?_
      refine wp_iload_n (pc := 25) dX1_greatestNumber_25 rfl ?_
      first | refine wp_aload_n (pc := 26) dX1_greatestNumber_26 rfl ?_ | refine wp_aload_nN (pc := 26) dX1_greatestNumber_26 rfl ?_
      refine wp_getR (pc := 27) dX1_greatestNumber_27 fl_FileRow_61 (by assumption) rfl (by assumption) ?_
      refine cv_FileRow_86 (pc := 30) (s_X4_greatestNumber hS.2.2.2 hf hle) rfl dX1_greatestNumber_30 (by assumption) ⟨by decide, by decide, Nat.zero_le _, Nat.zero_le _⟩ (Nat.le_of_ble_eq_true rfl) (fun v h hp => ?_)
      obtain ⟨rfl, rfl⟩ := hp
      rw [hrl]
      refine wp_max (pc := 33) dX1_greatestNumber_33 ml_FileRow_58 (by decide) (Nat.le_of_ble_eq_true rfl) ?_
      refine wp_istore_n (pc := 36) dX1_greatestNumber_36 (by decide) rfl ?_
      refine wp_iinc (pc := 37) dX1_greatestNumber_37 rfl (by decide) rfl ?_
      refine wp_goto (pc := 40) (tgt := 4) dX1_greatestNumber_40 (by decide) ?_
      refine wp_loc (L' := [(0, .ref r), (1, .int (if m < gN 0 F.es then gN 0 F.es else m)), (2, .int (y + Int32.ofInt 1))]) ⟨rfl, rfl, rfl, trivial⟩ ?_
      refine ih (t + 1) _ _ (by omega) (by rw [hy]; exact nI_i1 t) ?_
      rw [fd_succ hFF, ← hm]
      unfold mxN
      split <;> rfl
theorem s_X1_greatestNumber (hF : fr_S n S R r x) (hL : al_L n S R I x arr cap l) (hFl : fl_I n S R I l fs) : wp 4 85 0 0 MX1_greatestNumber 0 [(0, .ref r)] [] (n, S, R, I) (fun v h => h = (n, S, R, I) ∧ v = some (.int (fs.foldl mxN 0))) := by
  refine wp_iconst (pc := 0) (v := 0) dX1_greatestNumber_0 (by decide) ?_
  refine wp_istore_n (pc := 1) dX1_greatestNumber_1 (by decide) rfl ?_
  refine wp_iconst (pc := 2) (v := 0) dX1_greatestNumber_2 (by decide) ?_
  refine wp_istore_n (pc := 3) dX1_greatestNumber_3 (by decide) rfl ?_
  refine wp_loc (L' := [(0, .ref r), (1, .int 0), (2, .int 0)]) ⟨rfl, rfl, rfl, trivial⟩ ?_
  exact s_X1_greatestNumber_loop hF hL hFl _ ⟨rfl, rfl⟩ l.length 0 _ _ (by omega) rfl rfl
end FLS
