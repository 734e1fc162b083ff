/-! WHICH BYTES ARE TAKEN; TO RETIRE FILES -/
def pl (F : FA) : Nat := F.2.1.toInt.toNat
def ln (F : FA) : Nat := F.2.2.1.toInt.toNat
abbrev lvk (k : Nat) : Prop := k < 4 ∨ k = 5
def TK (T : Nat → Int32) (FS : Nat → List FA) : Prop := (∀ j, T j = 0 ∨ T j = 1) ∧ ∀ j, j < 1500 → (T j ≠ 0 ↔ ∃ (k a : Nat) (F : FA), lvk k ∧ (FS k)[a]? = some F ∧ pl F ≤ j ∧ j < pl F + ln F)
def DJ (FS : Nat → List FA) : Prop := ∀ (i j a b : Nat) (F G : FA), lvk i → lvk j → (FS i)[a]? = some F → (FS j)[b]? = some G → (i ≠ j ∨ a ≠ b) → pl F + ln F ≤ pl G ∨ pl G + ln G ≤ pl F
def PLC (FS : Nat → List FA) : Prop := (∀ (k a : Nat) (F : FA), lvk k → (FS k)[a]? = some F → F.2.1 = nI (pl F) ∧ F.2.2.1 = nI (ln F) ∧ pl F + ln F ≤ 1500 ∧ 1 ≤ ln F) ∧ DJ FS
theorem TK.congr {T : Nat → Int32} {FS FS' : Nat → List FA} (h : TK T FS) (he : ∀ k, lvk k → FS' k = FS k) : TK T FS' := by
  refine ⟨h.1, fun j hj => (h.2 j hj).trans ⟨?_, ?_⟩⟩
  · rintro ⟨k, a, F, h1, h2, h3⟩
    exact ⟨k, a, F, h1, by rw [he k h1]; exact h2, h3⟩
  · rintro ⟨k, a, F, h1, h2, h3⟩
    exact ⟨k, a, F, h1, by rw [← he k h1]; exact h2, h3⟩
theorem PLC.congr {FS FS' : Nat → List FA} (h : PLC FS) (he : ∀ k, lvk k → FS' k = FS k) : PLC FS' := by
  refine ⟨fun k a F h1 h2 => h.1 k a F h1 (by rw [← he k h1]; exact h2), fun i j a b F G hi hj hF hG hne => h.2 i j a b F G hi hj (by rw [← he i hi]; exact hF) (by rw [← he j hj]; exact hG) hne⟩
theorem up_at {α : Type} {f : Nat → α} {k : Nat} {v : α} : va_up f k v k = v := by simp [va_up]
theorem up_ne {α : Type} {f : Nat → α} {k j : Nat} {v : α} (h : j ≠ k) : va_up f k v j = f j := by simp [va_up, h]
/-- where a file of the shorter row stood -/
theorem del_back {FS : Nat → List FA} {k i : Nat} (hi : i < (FS k).length) {j a : Nat} {G : FA} (h : (va_up FS k (delF (FS k) i) j)[a]? = some G) : ∃ a', (FS j)[a']? = some G ∧ (j = k → a' = if a < i then a else a + 1) ∧ (j ≠ k → a' = a) := by
  by_cases hjk : j = k
  · subst hjk
    rw [up_at, delF_get hi] at h
    by_cases h1 : a < i
    · rw [if_pos h1] at h
      exact ⟨a, h, fun _ => by rw [if_pos h1], fun q => absurd rfl q⟩
    · rw [if_neg h1] at h
      exact ⟨a + 1, h, fun _ => by rw [if_neg h1], fun q => absurd rfl q⟩
  · rw [up_ne hjk] at h
    exact ⟨a, h, fun q => absurd q hjk, fun _ => rfl⟩
theorem PLC.free {FS : Nat → List FA} (h : PLC FS) {k i : Nat} (hi : i < (FS k).length) : PLC (va_up FS k (delF (FS k) i)) := by
  refine ⟨fun j a F h1 h2 => ?_, fun x y a b F G hx hy hF hG hne => ?_⟩
  · obtain ⟨a', h3, -⟩ := del_back hi h2
    exact h.1 j a' F h1 h3
  · obtain ⟨a', h3, e1, e2⟩ := del_back hi hF
    obtain ⟨b', h4, e3, e4⟩ := del_back hi hG
    refine h.2 x y a' b' F G hx hy h3 h4 ?_
    by_cases hxy : x = y
    · right
      have hab : a ≠ b := hne.resolve_left (fun q => q hxy)
      by_cases hxk : x = k
      · rw [e1 hxk, e3 (hxy ▸ hxk)]
        by_cases c1 : a < i
        · rw [if_pos c1]
          by_cases c2 : b < i
          · rw [if_pos c2]; exact hab
          · rw [if_neg c2]; omega
        · rw [if_neg c1]
          by_cases c2 : b < i
          · rw [if_pos c2]; omega
          · rw [if_neg c2]; omega
      · rw [e2 hxk, e4 (fun q => hxk (hxy.trans q))]; exact hab
    · exact Or.inl hxy
theorem TK.free {T : Nat → Int32} {FS : Nat → List FA} (h : TK T FS) (hP : PLC FS) {k i : Nat} {F : FA} (hk : lvk k) (hF : (FS k)[i]? = some F) : TK (mk22 T (pl F) (ln F) 0) (va_up FS k (delF (FS k) i)) := by
  have hi := (List.getElem?_eq_some_iff.mp hF).1
  refine ⟨fun j => ?_, fun j hj => ?_⟩
  · unfold mk22
    split
    · exact Or.inl rfl
    · exact h.1 j
  · unfold mk22
    by_cases hin : pl F ≤ j ∧ j < pl F + ln F
    · rw [if_pos hin]
      refine ⟨fun q => absurd rfl q, ?_⟩
      rintro ⟨x, a, G, h1, h2, h3, h4⟩
      obtain ⟨a', h5, e1, e2⟩ := del_back hi h2
      exfalso
      have := hP.2 x k a' i G F h1 hk h5 hF (by
        by_cases hxk : x = k
        · right
          rw [e1 hxk]
          split <;> omega
        · exact Or.inl hxk)
      omega
    · rw [if_neg hin]
      refine (h.2 j hj).trans ⟨?_, ?_⟩
      · rintro ⟨x, a, G, h1, h2, h3, h4⟩
        by_cases hxk : x = k
        · subst hxk
          by_cases hai : a = i
          · subst hai
            rw [hF] at h2
            cases h2
            exact absurd ⟨h3, h4⟩ hin
          · by_cases hlt : a < i
            · exact ⟨x, a, G, h1, by rw [up_at, delF_get hi, if_pos hlt]; exact h2, h3, h4⟩
            · exact ⟨x, a - 1, G, h1, by rw [up_at, delF_get hi, if_neg (by omega), show a - 1 + 1 = a by omega]; exact h2, h3, h4⟩
        · exact ⟨x, a, G, h1, by rw [up_ne hxk]; exact h2, h3, h4⟩
      · rintro ⟨x, a, G, h1, h2, h3, h4⟩
        obtain ⟨a', h5, -⟩ := del_back hi h2
        exact ⟨x, a', G, h1, h5, h3, h4⟩
def tot (P : Nat → List Nat) : Nat := (P 0).length + (P 1).length + (P 2).length + (P 3).length + (P 4).length + (P 5).length
theorem tot_le {P : Nat → List Nat} {k : Nat} (h : k < 6) : (P k).length ≤ tot P := by
  rcases (show k = 0 ∨ k = 1 ∨ k = 2 ∨ k = 3 ∨ k = 4 ∨ k = 5 by omega) with rfl | rfl | rfl | rfl | rfl | rfl <;> simp only [tot] <;> omega
theorem tot_up {P : Nat → List Nat} {k : Nat} {l : List Nat} (h : k < 6) : tot (va_up P k l) + (P k).length = tot P + l.length := by
  rcases (show k = 0 ∨ k = 1 ∨ k = 2 ∨ k = 3 ∨ k = 4 ∨ k = 5 by omega) with rfl | rfl | rfl | rfl | rfl | rfl <;> simp [tot, va_up] <;> omega
theorem delF_td {l : List FA} {t b : Nat} (ht : t + 1 ≤ b) (hb : b ≤ l.length) : delF (l.take (t + 1) ++ l.drop b) t = l.take t ++ l.drop b := by
  unfold delF
  have hl : (l.take (t + 1)).length = t + 1 := by simp; omega
  rw [List.take_append_of_le_length (by omega), List.drop_append_of_le_length (by omega)]
  rw [List.take_take, show min t (t + 1) = t by omega, List.drop_eq_nil_of_le (by omega)]
  rfl
theorem al_le {len cap : Nat} (hl : len < 333) (h0 : cap = 0 ∨ 10 ≤ cap) : al_c len cap ≤ (500 - cap) / 5 ∧ al_s len cap ≤ 4 * (500 - cap) := by
  unfold al_c al_s
  by_cases hf : len = cap
  · rw [if_pos hf, if_pos hf]
    have := nc_le (cap := cap) (by omega) h0
    omega
  · rw [if_neg hf, if_neg hf]
    omega
theorem al_L.c10 {n : Nat} {S : ab_SH} {R : ab_RR} {I : ab_II} {x arr cap : Nat} {l : List Nat} (h : al_L n S R I x arr cap l) : cap = 0 ∨ 10 ≤ cap := h.2.2.2.2.2.1.elim (fun z => Or.inl z.1) (fun z => Or.inr z.1)
section RET
variable {n : Nat} {S : ab_SH} {R : ab_RR} {I : ab_II} {A : AC} {P : Nat → List Nat} {FS : Nat → List FA}
theorem s_X6_retire_loop {k a b : Nat} (hk : lvk k) (hab : a ≤ b) (post : ab_Po) {n0 : Nat} {S0 : ab_SH} {R0 : ab_RR} {I0 : ab_II} {A0 : AC} {FS0 : Nat → List FA} (hb : b ≤ (FS0 k).length) (w : Int32) (tp : Nat) (htp : tp ≤ 331)
    (hpost : ∀ n S R I A P FS, ab_ex n0 S0 R0 n S R → Fx n S R → LF n S R I A P FS → FS k = (FS0 k).take a ++ (FS0 k).drop b → (∀ j, j ≠ k → j ≠ 4 → FS j = FS0 j) → TK (I 22) FS → PLC FS → (∀ j, j < 66 → j ∉ [19, 22, xk k] → I j = I0 j) → (∀ j, j ≠ 4 → A j = A0 j) → tot P = tp → post none (n, S, R, I)) :
    ∀ (t : Nat) (y : Int32) (n : Nat) (S : ab_SH) (R : ab_RR) (I : ab_II) (A : AC) (P : Nat → List Nat) (FS : Nat → List FA) (mc ms : Nat), a ≤ t → t ≤ b → y.toInt = (t : Int) - 1 → ab_ex n0 S0 R0 n S R → Fx n S R → LF n S R I A P FS → FS k = (FS0 k).take t ++ (FS0 k).drop b → (∀ j, j ≠ k → j ≠ 4 → FS j = FS0 j) → TK (I 22) FS → PLC FS → (∀ j, j < 66 → j ∉ [19, 22, xk k] → I j = I0 j) → (∀ j, j ≠ 4 → A j = A0 j) → tot P = tp → pC A 4 ≤ mc → pS A 4 ≤ ms →
    wp 8 194 mc ms MX6_retire 10 [(0, .ref 3), (1, .ref (fk k)), (2, .int (nI a)), (3, .int w), (4, .int y)] [] (n, S, R, I) post := by
  have hk6 : k < 6 := by omega
  have hk4 : k ≠ 4 := by omega
  have hxk := xk_in hk6
  intro t
  induction t with
  | zero =>
    intro y n S R I A P FS mc ms hat htb hy he hX hLF hFk hFo hT hP hI hA htot hmc hms
    have ea : (nI a).toInt = a := tI_n (by omega)
    refine wp_iload (pc := 10) dX6_retire_10 rfl ?_
    refine wp_iload_n (pc := 12) dX6_retire_12 rfl ?_
    refine wp_icmp_lt (pc := 13) (tgt := 53) dX6_retire_13 (by decide) (fun hc => ?_) (fun hc => ?_)
    · skip
      refine wp_retv (pc := 53) dX6_retire_53 rfl ?_
      exact hpost n S R I A P FS he hX hLF (by rw [hFk, show a = 0 by omega]) hFo hT hP hI hA htot
    · omega
  | succ t ih =>
    intro y n S R I A P FS mc ms hat htb hy he hX hLF hFk hFo hT hP hI hA htot hmc hms
    have hPl : (P k).length = (FS k).length := (hLF.1 k hk6).2.1.1
    have hlk := tot_le (P := P) hk6
    have hl4 := tot_le (P := P) (k := 4) (by decide)
    have hFlen : (FS k).length = t + 1 + ((FS0 k).length - b) := by rw [hFk]; simp; omega
    have ea : (nI a).toInt = a := by
      have : a ≤ t + 1 := hat
      rw [tI_n (by omega)]
    have ey : y = nI t := tI_N (by omega)
    have et : (nI t).toInt = t := tI_n (by omega)
    obtain ⟨q, F, hq, hF, -⟩ := fl_at (hLF.1 k hk6).2.1 (t := t) (by omega)
    obtain ⟨f1, f2, f3, -⟩ := hP.1 k t F hk hF
    have o3 : ab_ok n S 3 7 := hX.ok (by decide)
    have ofk : ab_ok n S (fk k) 2 := (hX.fr hk6).1
    refine wp_iload (pc := 10) dX6_retire_10 rfl ?_
    refine wp_iload_n (pc := 12) dX6_retire_12 rfl ?_
    refine wp_icmp_lt (pc := 13) (tgt := 53) dX6_retire_13 (by decide) (fun hc => ?_) (fun hc => ?_)
    · have hta : t + 1 = a := by omega
      refine wp_retv (pc := 53) dX6_retire_53 rfl ?_
      exact hpost n S R I A P FS he hX hLF (by rw [hFk, hta]) hFo hT hP hI hA htot
    · skip
      first | refine wp_aload_n (pc := 16) dX6_retire_16 rfl ?_ | refine wp_aload_nN (pc := 16) dX6_retire_16 rfl ?_
      refine wp_iload (pc := 17) dX6_retire_17 rfl ?_
      rw [ey]
      refine cv_LevelStore_306 (pc := 19) (s_out hX hLF hk6 hq hF) rfl dX6_retire_19 (by first | assumption | exact Fx.ok (by assumption) (by decide)) ⟨by decide, by decide, Nat.zero_le _, Nat.zero_le _⟩ (Nat.le_of_ble_eq_true rfl) (fun v h hp => ?_)
      obtain ⟨rfl, R1, I1, rfl, he1, hLF1, hI1, hS1, hSI1, hnot1⟩ := hp
      have hX1 := hX.ex he1
      have h66 := hS1.1
      have oq := hS1.2.1
      first | refine wp_astore (pc := 22) dX6_retire_22 (by decide) rfl ?_ | refine wp_astoreN (pc := 22) dX6_retire_22 (by decide) rfl ?_
      first | refine wp_aload (pc := 24) dX6_retire_24 rfl ?_ | refine wp_aloadN (pc := 24) dX6_retire_24 rfl ?_
      refine wp_ifnull_r (pc := 26) dX6_retire_26 ?_
      first | refine wp_aload_n (pc := 29) dX6_retire_29 rfl ?_ | refine wp_aload_nN (pc := 29) dX6_retire_29 rfl ?_
      refine wp_getR (pc := 30) dX6_retire_30 fl_LevelStore_36 (by first | assumption | exact Fx.ok (by assumption) (by decide)) rfl (by first | assumption | exact Fx.ref (by assumption) rfl) ?_
      first | refine wp_aload (pc := 33) dX6_retire_33 rfl ?_ | refine wp_aloadN (pc := 33) dX6_retire_33 rfl ?_
      refine cv_LevelStore_310 (pc := 35) (s_X0_free hX1 oq h66 (pl F) (ln F) f3 (by rw [hSI1.2.1]; exact f1) (by rw [hSI1.2.2.1]; exact f2)) rfl dX6_retire_35 (by first | assumption | exact Fx.ok (by assumption) (by decide)) ⟨by decide, by decide, Nat.zero_le _, Nat.zero_le _⟩ (Nat.le_of_ble_eq_true rfl) (fun v h hp => ?_)
      obtain ⟨rfl, I2, rfl, g1, g2⟩ := hp
      have hLF2 := hLF1.keep (I' := I2) (fun j hj => g1 _ (by have := xk_in hj; simp; omega)) (fun j hj => g1 j (by simp; omega))
      have hSI2 : sf_I I2 q F := hSI1.keep (fun j h1 h2 => g1 j (by simp; omega))
      have e4 : (va_up P k (delAt (P k) t)) 4 = P 4 := up_ne (Ne.symm hk4)
      first | refine wp_aload_n (pc := 38) dX6_retire_38 rfl ?_ | refine wp_aload_nN (pc := 38) dX6_retire_38 rfl ?_
      refine wp_getR (pc := 39) dX6_retire_39 fl_LevelStore_29 (by first | assumption | exact Fx.ok (by assumption) (by decide)) rfl (by first | assumption | exact Fx.ref (by assumption) rfl) ?_
      first | refine wp_aload (pc := 42) dX6_retire_42 rfl ?_ | refine wp_aloadN (pc := 42) dX6_retire_42 rfl ?_
      have hal := al_le (len := (P 4).length) (cap := (A 4).2) (by omega) (hLF.1 4 (by decide)).1.c10
      unfold pC at hmc
      unfold pS at hms
      refine cv_LevelStore_303 (pc := 44) (s_add2 hX1 hLF2 (k := 4) (by decide) (by rw [e4]; omega) hS1 hSI2 hnot1) rfl dX6_retire_44 (by first | assumption | exact Fx.ok (by assumption) (by decide)) ⟨by decide, by decide, by rw [e4]; omega, by rw [e4]; omega⟩ (Nat.le_of_ble_eq_true rfl) (fun v h hp => ?_)
      obtain ⟨rfl, n3, S3, R3, I3, A3, rfl, he3, hLF3, hI3, hA3, hc3, hs3⟩ := hp
      refine wp_iinc (pc := 47) dX6_retire_47 rfl (by decide) rfl ?_
      refine wp_goto (pc := 50) (tgt := 10) dX6_retire_50 (by decide) ?_
      refine wp_loc (L' := [(0, .ref 3), (1, .ref (fk k)), (2, .int (nI a)), (3, .int w), (4, .int (nI t + Int32.ofInt (-1)))]) ⟨rfl, rfl, rfl, rfl, rfl, trivial⟩ ?_
      have hlenP : (delAt (P k) t).length = (P k).length - 1 := delAt_len (by omega)
      have t1 := tot_up (P := P) (k := k) (l := delAt (P k) t) hk6
      have t2 := tot_up (P := va_up P k (delAt (P k) t)) (k := 4) (l := (va_up P k (delAt (P k) t)) 4 ++ [q]) (by decide)
      rw [e4] at t2 hc3 hs3
      simp only [List.length_append, List.length_singleton] at t2
      have hn := he1.1
      have h66n := hX.1
      refine ih _ n3 S3 R3 I3 A3 _ _ _ _ (by omega) (by omega) ?_ ((he.tr he1).tr he3) (hX1.ex he3) hLF3 ?_ (fun j hj hj4 => ?_) ?_ ?_ (fun j hj hjn => ?_) (fun j hj => (hA3 j hj).trans (hA j hj)) (by rw [e4]; omega) ?_ ?_
      · rw [show Int32.ofInt (-1) = -1 by decide, tI_add (by rw [tl_m1]; omega) (by rw [tl_m1]; omega), tl_m1]; omega
      · rw [up_ne hk4, up_at, hFk]
        exact delF_td (by omega) hb
      · rw [up_ne hj4, up_ne hj]
        exact hFo j hj hj4
      · rw [hI3 22 (by omega) (by decide), g2, hI1 22 (by omega)]
        exact (hT.free hP hk hF).congr (fun j hj => up_ne (by omega))
      · exact (hP.free (i := t) (by omega)).congr (fun j hj => up_ne (by omega))
      · simp only [List.mem_cons, List.not_mem_nil, or_false, not_or] at hjn
        rw [hI3 j (by omega) (by show j ≠ 19; omega), g1 j (by simp; omega), hI1 j (by omega)]
        exact hI j hj (by simp; omega)
      · rw [e4]; unfold pC at hc3 ⊢; omega
      · rw [e4]; unfold pS at hs3 ⊢; omega
theorem s_X6_retire (hX : Fx n S R) (hLF : LF n S R I A P FS) {k a b : Nat} (hk : lvk k) (hab : a ≤ b) (hb : b ≤ (FS k).length) (hT : TK (I 22) FS) (hP : PLC FS) (htp : tot P ≤ 331) :
    wp 8 194 (pC A 4) (pS A 4) MX6_retire 0 [(0, .ref 3), (1, .ref (fk k)), (2, .int (nI a)), (3, .int (nI b))] [] (n, S, R, I) (fun v h => v = none ∧ ∃ n' S' R' I' A' P' FS', h = (n', S', R', I') ∧ ab_ex n S R n' S' R' ∧ LF n' S' R' I' A' P' FS' ∧ FS' k = (FS k).take a ++ (FS k).drop b ∧ (∀ j, j ≠ k → j ≠ 4 → FS' j = FS j) ∧ TK (I' 22) FS' ∧ PLC FS' ∧ (∀ j, j < 66 → j ∉ [19, 22, xk k] → I' j = I j) ∧ (∀ j, j ≠ 4 → A' j = A j) ∧ tot P' = tot P) := by
  have hk6 : k < 6 := by omega
  have hPl : (P k).length = (FS k).length := (hLF.1 k hk6).2.1.1
  have hlk := tot_le (P := P) hk6
  have eb : (nI b - 1).toInt = (b : Int) - 1 := by
    have : (nI b).toInt = b := tI_n (by omega)
    rw [tI_sub (by rw [tl_1]; omega) (by rw [tl_1]; omega), tl_1, this]
  first | refine wp_aload_n (pc := 0) dX6_retire_0 rfl ?_ | refine wp_aload_nN (pc := 0) dX6_retire_0 rfl ?_
  refine wp_ifnonnull_r (pc := 1) (tgt := 5) dX6_retire_1 (by decide) ?_
  refine wp_iload_n (pc := 5) dX6_retire_5 rfl ?_
  refine wp_iconst (pc := 6) (v := 1) dX6_retire_6 (by decide) ?_
  refine wp_isub (pc := 7) dX6_retire_7 ?_
  refine wp_istore (pc := 8) dX6_retire_8 (by decide) rfl ?_
  refine wp_loc (L' := [(0, .ref 3), (1, .ref (fk k)), (2, .int (nI a)), (3, .int (nI b)), (4, .int (nI b - 1))]) ⟨rfl, rfl, rfl, rfl, rfl, trivial⟩ ?_
  exact s_X6_retire_loop hk hab _ (FS0 := FS) hb _ (tot P) htp (fun n' S' R' I' A' P' FS' h1 _ h3 h4 h5 h6 h7 h8 h9 h10 => ⟨rfl, n', S', R', I', A', P', FS', rfl, h1, h3, h4, h5, h6, h7, h8, h9, h10⟩) b _ n S R I A P FS _ _ hab (Nat.le_refl b) eb ab_ex.rf hX hLF (by rw [List.take_append_drop]) (fun _ _ _ => rfl) hT hP (fun _ _ _ => rfl) (fun _ _ => rfl) rfl (Nat.le_refl _) (Nat.le_refl _)
theorem s_X6_retireN (x y : Int32) : wp 8 194 0 0 MX6_retire 0 [(0, .ref 3), (1, .null), (2, .int x), (3, .int y)] [] (n, S, R, I) (fun v h => v = none ∧ h = (n, S, R, I)) := by
  first | refine wp_aload_n (pc := 0) dX6_retire_0 rfl ?_ | refine wp_aload_nN (pc := 0) dX6_retire_0 rfl ?_
  refine wp_ifnonnull_n (pc := 1) dX6_retire_1 ?_
  refine wp_retv (pc := 4) dX6_retire_4 rfl ?_
  exact ⟨rfl, rfl⟩
end RET
