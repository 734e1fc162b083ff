/-! A FILE ENDS -/
theorem app_get {α : Type} {l : List α} {x y : α} {a : Nat} (h : (l ++ [x])[a]? = some y) : l[a]? = some y ∨ (a = l.length ∧ y = x) := by
  by_cases ha : a < l.length
  · rw [List.getElem?_append_left ha] at h
    exact Or.inl h
  · rw [List.getElem?_append_right (by omega)] at h
    have hz : a - l.length < 1 := (List.getElem?_eq_some_iff.mp h).1
    rw [show a - l.length = 0 by omega] at h
    cases h
    exact Or.inr ⟨by omega, rfl⟩
theorem app_getl {α : Type} {l : List α} {x y : α} {a : Nat} (h : l[a]? = some y) : (l ++ [x])[a]? = some y := by
  rw [List.getElem?_append_left (List.getElem?_eq_some_iff.mp h).1]; exact h
theorem TK.lay {T : Nat → Int32} {FS : Nat → List FA} (h : TK T FS) {F : FA} : TK (mk22 T (pl F) (ln F) 1) (va_up FS 5 (FS 5 ++ [F])) := by
  refine ⟨fun j => ?_, fun j hj => ?_⟩
  · unfold mk22
    split
    · exact Or.inr rfl
    · exact h.1 j
  · unfold mk22
    by_cases hin : pl F ≤ j ∧ j < pl F + ln F
    · rw [if_pos hin]
      exact ⟨fun _ => ⟨5, (FS 5).length, F, Or.inr rfl, by rw [up_at, List.getElem?_append_right (Nat.le_refl _), Nat.sub_self]; rfl, hin⟩, fun _ => by decide⟩
    · rw [if_neg hin]
      refine (h.2 j hj).trans ⟨?_, ?_⟩
      · rintro ⟨x, a, G, h1, h2, h3⟩
        by_cases hx : x = 5
        · subst hx
          exact ⟨5, a, G, h1, by rw [up_at]; exact app_getl h2, h3⟩
        · exact ⟨x, a, G, h1, by rw [up_ne hx]; exact h2, h3⟩
      · rintro ⟨x, a, G, h1, h2, h3⟩
        by_cases hx : x = 5
        · subst hx
          rw [up_at] at h2
          rcases app_get h2 with h2 | ⟨-, rfl⟩
          · exact ⟨5, a, G, h1, h2, h3⟩
          · exact absurd h3 hin
        · rw [up_ne hx] at h2
          exact ⟨x, a, G, h1, h2, h3⟩
theorem PLC.lay {T : Nat → Int32} {FS : Nat → List FA} (h : PLC FS) (hT : TK T FS) {F : FA} (h1 : F.2.1 = nI (pl F)) (h2 : F.2.2.1 = nI (ln F)) (hl : 1 ≤ ln F) (hf : fits1 T (ln F) (pl F)) : PLC (va_up FS 5 (FS 5 ++ [F])) := by
  have key : ∀ (x a : Nat) (G : FA), lvk x → (FS x)[a]? = some G → pl G + ln G ≤ pl F ∨ pl F + ln F ≤ pl G := by
    intro x a G hx hG
    obtain ⟨-, -, g3, g4⟩ := h.1 x a G hx hG
    have hfit := hf.1
    by_cases c1 : pl G + ln G ≤ pl F
    · exact Or.inl c1
    by_cases c2 : pl F + ln F ≤ pl G
    · exact Or.inr c2
    exfalso
    by_cases c3 : pl F ≤ pl G
    · exact ((hT.2 (pl G) (by omega)).mpr ⟨x, a, G, hx, hG, by omega, by omega⟩) (hf.2 _ (by omega) (by omega))
    · exact ((hT.2 (pl F) (by omega)).mpr ⟨x, a, G, hx, hG, by omega, by omega⟩) (hf.2 _ (by omega) (by omega))
  refine ⟨fun k a G hk hG => ?_, fun x y a b G K hx hy hG hK hne => ?_⟩
  · by_cases hk5 : k = 5
    · subst hk5
      rw [up_at] at hG
      rcases app_get hG with hG | ⟨-, rfl⟩
      · exact h.1 5 a G hk hG
      · exact ⟨h1, h2, hf.1, hl⟩
    · rw [up_ne hk5] at hG
      exact h.1 k a G hk hG
  · have old : ∀ (z c : Nat) (Z : FA), (va_up FS 5 (FS 5 ++ [F]) z)[c]? = some Z → (FS z)[c]? = some Z ∨ (z = 5 ∧ c = (FS 5).length ∧ Z = F) := by
      intro z c Z hZ
      by_cases hz : z = 5
      · subst hz
        rw [up_at] at hZ
        rcases app_get hZ with hZ | ⟨e1, e2⟩
        · exact Or.inl hZ
        · exact Or.inr ⟨rfl, e1, e2⟩
      · rw [up_ne hz] at hZ
        exact Or.inl hZ
    rcases old x a G hG with hG' | ⟨e0, e1, e3⟩
    · rcases old y b K hK with hK' | ⟨g0, g1, g3⟩
      · exact h.2 x y a b G K hx hy hG' hK' hne
      · rw [g3]; exact key x a G hx hG'
    · rcases old y b K hK with hK' | ⟨g0, g1, g3⟩
      · rw [e3]; exact (key y b K hy hK').symm
      · exfalso
        rcases hne with h | h
        · exact h (e0.trans g0.symm)
        · exact h (e1.trans g1.symm)
theorem ab_fr_at {I I' : ab_II} {P : List Nat} (h : ab_fr I I' P) {j : Nat} (hj : j ∉ P) : I' j = I j := h j hj
section EF
variable {n : Nat} {S : ab_SH} {R : ab_RR} {I : ab_II} {A : AC} {P : Nat → List Nat} {FS : Nat → List FA}
theorem s_X6_endFile0 (hX : Fx n S R) (h0 : I 33 3 = 0) : wp 8 194 0 0 MX6_endFile 0 [(0, .ref 3)] [] (n, S, R, I) (fun v h => v = some (.int 1) ∧ h = (n, S, R, I)) := by
  first | refine wp_aload_n (pc := 0) dX6_endFile_0 rfl ?_ | refine wp_aload_nN (pc := 0) dX6_endFile_0 rfl ?_
  refine wp_getR (pc := 1) dX6_endFile_1 fl_LevelStore_50 (by first | assumption | exact Fx.ok (by assumption) (by decide)) rfl (by first | assumption | exact Fx.ref (by assumption) rfl) ?_
  refine wp_getR (pc := 4) dX6_endFile_4 fl_LevelStore_290 (by first | assumption | exact Fx.ok (by assumption) (by decide)) rfl (by first | assumption | exact Fx.ref (by assumption) rfl) ?_
  refine wp_getI (pc := 7) dX6_endFile_7 fl_LevelStore_66 (by first | assumption | exact Fx.ok (by assumption) (by decide)) rfl ?_
  refine wp_if_ne (pc := 10) (tgt := 15) dX6_endFile_10 (by decide) (fun hc => ?_) (fun hc => ?_)
  · rw [h0] at hc; exact absurd rfl hc
  · skip
    refine wp_iconst (pc := 13) (v := 1) dX6_endFile_13 (by decide) ?_
    refine wp_ret (pc := 14) dX6_endFile_14 rfl (by first | trivial | exact Or.inl rfl | exact Or.inr rfl | assumption) ?_
    exact ⟨rfl, rfl⟩
/-- up to the laying -/
theorem s_X6_endFile_pre (hX : Fx n S R) (h : LF n S R I A P FS) {es : List En} {g : Nat → En} (hG : rw_I I 33 34 35 36 es.length g) (hrl : rl es.length g = es) (hv : vk es) (hne : es ≠ []) (post : ab_Po) (mc ms : Nat) (hmc : 5 ≤ mc) (hms : 80 ≤ ms)
    (kk : ∀ q F n' S' R' I' P' FS' f, ab_ex n S R n' S' R' → Fx n' S' R' → LF n' S' R' I' A P' FS' → sf_S n' S' R' q → rw_I I' (q + 1) (q + 2) (q + 3) (q + 4) es.length f → rl es.length f = es → I' q 1 = F → (∀ j, j < 6 → q ∉ P' j) → (∀ j, j < 66 → j ≠ 19 → j ≠ 33 → I' j = I j) → I' 33 3 = 0 → (∀ k, k ≠ 4 → P' k = P k ∧ FS' k = FS k) → ((P 4).length = (P' 4).length + 1 ∨ ((P 4).length = 0 ∧ (P' 4).length = 0)) → wp 8 194 (mc - 5) (ms - 80) MX6_endFile 45 [(0, .ref 3), (1, .ref q)] [] (n', S', R', I') post) :
    wp 8 194 mc ms MX6_endFile 0 [(0, .ref 3)] [] (n, S, R, I) post := by
  have h66 := hX.1
  have hl := hv.2.2
  have hpos : 0 < es.length := List.length_pos_iff.mpr hne
  have e33 : (I 33 3).toInt = es.length := by rw [hG.1, tI_n (by omega)]
  first | refine wp_aload_n (pc := 0) dX6_endFile_0 rfl ?_ | refine wp_aload_nN (pc := 0) dX6_endFile_0 rfl ?_
  refine wp_getR (pc := 1) dX6_endFile_1 fl_LevelStore_50 (by first | assumption | exact Fx.ok (by assumption) (by decide)) rfl (by first | assumption | exact Fx.ref (by assumption) rfl) ?_
  refine wp_getR (pc := 4) dX6_endFile_4 fl_LevelStore_290 (by first | assumption | exact Fx.ok (by assumption) (by decide)) rfl (by first | assumption | exact Fx.ref (by assumption) rfl) ?_
  refine wp_getI (pc := 7) dX6_endFile_7 fl_LevelStore_66 (by first | assumption | exact Fx.ok (by assumption) (by decide)) rfl ?_
  refine wp_if_ne (pc := 10) (tgt := 15) dX6_endFile_10 (by decide) (fun hc => ?_) (fun hc => ?_)
  · skip
    first | refine wp_aload_n (pc := 15) dX6_endFile_15 rfl ?_ | refine wp_aload_nN (pc := 15) dX6_endFile_15 rfl ?_
    refine cv_LevelStore_293 (pc := 16) (s_X6_freshFile hX h) rfl dX6_endFile_16 (by first | assumption | exact Fx.ok (by assumption) (by decide)) ⟨by decide, by decide, by omega, by omega⟩ (Nat.le_of_ble_eq_true rfl) (fun v h hp => ?_)
    obtain ⟨q, F, n1, S1, R1, I1, P1, FS1, rfl, rfl, he1, hLF1, hS1, hSI1, hnot, hI1, hPF, hlen⟩ := hp
    have hX1 := hX.ex he1
    have oq := hS1.2.1
    have rq := hS1.2.2.1
    have orq := hS1.2.2.2.1
    have hq66 := hS1.1
    obtain ⟨-, -, -, hle, f1, hf1, -⟩ := id hSI1
    have hG1 : rw_I I1 33 34 35 36 es.length g := ⟨by rw [hI1 33 (by omega) (by decide)]; exact hG.1, fun k => by rw [hI1 34 (by omega) (by decide), hI1 35 (by omega) (by decide), hI1 36 (by omega) (by decide)]; exact hG.2 k⟩
    first | refine wp_astore_n (pc := 19) dX6_endFile_19 (by decide) rfl ?_ | refine wp_astore_nN (pc := 19) dX6_endFile_19 (by decide) rfl ?_
    first | refine wp_aload_n (pc := 20) dX6_endFile_20 rfl ?_ | refine wp_aload_nN (pc := 20) dX6_endFile_20 rfl ?_
    refine wp_getR (pc := 21) dX6_endFile_21 fl_LevelStore_216 (by first | assumption | exact Fx.ok (by assumption) (by decide)) rfl (by first | assumption | exact Fx.ref (by assumption) rfl) ?_
    first | refine wp_aload_n (pc := 24) dX6_endFile_24 rfl ?_ | refine wp_aload_nN (pc := 24) dX6_endFile_24 rfl ?_
    refine wp_getR (pc := 25) dX6_endFile_25 fl_LevelStore_50 (by first | assumption | exact Fx.ok (by assumption) (by decide)) rfl (by first | assumption | exact Fx.ref (by assumption) rfl) ?_
    refine wp_getR (pc := 28) dX6_endFile_28 fl_LevelStore_290 (by first | assumption | exact Fx.ok (by assumption) (by decide)) rfl (by first | assumption | exact Fx.ref (by assumption) rfl) ?_
    refine cv_LevelStore_297 (pc := 31) (s_X4_takeAll hS1.2.2.2 hf1 hl hX1.mak hG1 hl (by simp; omega)) rfl dX6_endFile_31 (by first | assumption | exact Fx.ok (by assumption) (by decide)) ⟨by decide, by decide, Nat.zero_le _, Nat.zero_le _⟩ (Nat.le_of_ble_eq_true rfl) (fun v h hp => ?_)
    obtain ⟨rfl, I2, f2, rfl, hf2, hr2, hrl2⟩ := hp
    first | refine wp_aload_n (pc := 34) dX6_endFile_34 rfl ?_ | refine wp_aload_nN (pc := 34) dX6_endFile_34 rfl ?_
    refine wp_getR (pc := 35) dX6_endFile_35 fl_LevelStore_50 (by first | assumption | exact Fx.ok (by assumption) (by decide)) rfl (by first | assumption | exact Fx.ref (by assumption) rfl) ?_
    refine wp_getR (pc := 38) dX6_endFile_38 fl_LevelStore_290 (by first | assumption | exact Fx.ok (by assumption) (by decide)) rfl (by first | assumption | exact Fx.ref (by assumption) rfl) ?_
    refine wp_iconst (pc := 41) (v := 0) dX6_endFile_41 (by decide) ?_
    refine wp_putI (pc := 42) dX6_endFile_42 fl_LevelStore_66 (by first | assumption | exact Fx.ok (by assumption) (by decide)) rfl rfl (Or.inl rfl) ?_
    refine wp_loc (L' := [(0, .ref 3), (1, .ref q)]) ⟨rfl, rfl, trivial⟩ ?_
    have keep : ∀ j, j ≠ 33 → ab_u2 I2 33 3 0 j = I2 j := fun j hj => ab_u2_r _ _ hj
    refine wp_room (mc' := mc - 5) (ms' := ms - 80) (by omega) (by omega) ?_
    refine kk q (I1 q 1) n1 S1 R1 (ab_u2 I2 33 3 0) P1 FS1 f2 he1 hX1 (hLF1.keepq hS1 hnot (fun k hk => ?_) (fun j hj hjq => ?_)) hS1 ?_ (hrl2.trans hrl) ?_ hnot (fun j hj h19 h33 => ?_) (by rw [ab_u2_s]) hPF hlen
    · have := xk_in hk
      rw [keep _ (by omega), hf2 _ (by simp; omega)]
    · rw [keep _ (by omega), hf2 _ (by simp; omega)]
    · exact ⟨by rw [keep _ (by omega)]; exact hr2.1, fun k => by rw [keep _ (by omega), keep _ (by omega), keep _ (by omega)]; exact hr2.2 k⟩
    · rw [keep _ (by omega), hf2 _ (by simp)]
    · rw [keep _ h33, hf2 _ (by simp; omega), hI1 j (by omega) h19]
  · omega
/-- there is room -/
theorem s_X6_endFile_ok (hX : Fx n S R) (h : LF n S R I A P FS) {es : List En} {g : Nat → En} (hG : rw_I I 33 34 35 36 es.length g) (hrl : rl es.length g = es) (hv : vk es) (hne : es ≠ []) (hT : TK (I 22) FS) (hP : PLC FS) (nf : Nat) (hnf : I 3 9 = nI nf) (htp : tot P ≤ 331) (htp2 : (P 4).length = 0 → tot P ≤ 330) (h5 : (P 5).length < 333) (hroom : ∃ p, fits1 (I 22) (enc es).length p) :
    wp 8 194 (5 + al_c (P 5).length (A 5).2) (80 + al_s (P 5).length (A 5).2) MX6_endFile 0 [(0, .ref 3)] [] (n, S, R, I) (fun v h => v = some (.int 1) ∧ ∃ p n' S' R' I' A' P' FS', h = (n', S', R', I') ∧ ab_ex n S R n' S' R' ∧ LF n' S' R' I' A' P' FS' ∧ FS' 5 = FS 5 ++ [(nI nf, nI p, nI (enc es).length, es)] ∧ (∀ j, j ≠ 5 → j ≠ 4 → FS' j = FS j) ∧ fits1 (I 22) (enc es).length p ∧ (∀ p', p' < p → ¬ fits1 (I 22) (enc es).length p') ∧ I' 21 = lay21 (I 21) p (enc es) ∧ TK (I' 22) FS' ∧ PLC FS' ∧ (∀ j, j < 66 → j ∉ [3, 19, 20, 21, 22, 23, 33, 38] → I' j = I j) ∧ I' 3 9 = nI (nf + 1) ∧ (∀ k, k ≠ 9 → I' 3 k = I 3 k) ∧ I' 33 3 = 0 ∧ (∀ j, j ≠ 5 → A' j = A j) ∧ al_c (P 5).length (A 5).2 + pC A' 5 ≤ pC A 5 ∧ al_s (P 5).length (A 5).2 + pS A' 5 ≤ pS A 5 ∧ tot P' ≤ 331 ∧ (P' 5).length = (P 5).length + 1) := by
  have h66 := hX.1
  have hl := enc_len hv
  have hl2 := enc_pos es
  refine s_X6_endFile_pre hX h hG hrl hv hne _ _ _ (by omega) (by omega) (fun q F n1 S1 R1 I1 P1 FS1 f he1 hX1 hLF1 hS1 hf hrlf hq1 hnot hI1 h33 hPF hlen => ?_)
  have oq := hS1.2.1
  have hq66 := hS1.1
  have e22 : I1 22 = I 22 := hI1 22 (by omega) (by decide) (by decide)
  have e21 : I1 21 = I 21 := hI1 21 (by omega) (by decide) (by decide)
  have e3 : I1 3 = I 3 := hI1 3 (by omega) (by decide) (by decide)
  have hn1 := he1.1
  first | refine wp_aload_n (pc := 45) dX6_endFile_45 rfl ?_ | refine wp_aload_nN (pc := 45) dX6_endFile_45 rfl ?_
  refine wp_getR (pc := 46) dX6_endFile_46 fl_LevelStore_36 (by first | assumption | exact Fx.ok (by assumption) (by decide)) rfl (by first | assumption | exact Fx.ref (by assumption) rfl) ?_
  first | refine wp_aload_n (pc := 49) dX6_endFile_49 rfl ?_ | refine wp_aload_nN (pc := 49) dX6_endFile_49 rfl ?_
  refine cv_LevelStore_300 (pc := 50) (s_X0_lay hX1 hS1 hv f hf hrlf (fun j => by rw [e22]; exact hT.1 j)) rfl dX6_endFile_50 (by first | assumption | exact Fx.ok (by assumption) (by decide)) ⟨by decide, by decide, Nat.zero_le _, Nat.zero_le _⟩ (Nat.le_of_ble_eq_true rfl) (fun v h hp => ?_)
  obtain ⟨I2, rfl, hp⟩ := hp
  rw [e22, e21] at hp
  rcases hp with ⟨rfl, -, hno⟩ | ⟨p, rfl, hfit, hleast, hf2, k1, k2, k3, k21, k22⟩
  · obtain ⟨p, hpp⟩ := hroom
    exact absurd hpp (hno p)
  refine wp_if_ne (pc := 53) (tgt := 66) dX6_endFile_53 (by decide) (fun hc => ?_) (fun hc => ?_)
  · skip
    first | refine wp_aload_n (pc := 66) dX6_endFile_66 rfl ?_ | refine wp_aload_nN (pc := 66) dX6_endFile_66 rfl ?_
    first | refine wp_aload_n (pc := 67) dX6_endFile_67 rfl ?_ | refine wp_aload_nN (pc := 67) dX6_endFile_67 rfl ?_
    refine wp_getI (pc := 68) dX6_endFile_68 fl_LevelStore_244 (by first | assumption | exact Fx.ok (by assumption) (by decide)) rfl ?_
    rw [ab_fr_at hf2 (j := 3) (by simp; omega), e3, hnf]
    refine wp_putI (pc := 71) dX6_endFile_71 fl_LevelStore_212 (by first | assumption | exact Fx.ok (by assumption) (by decide)) rfl rfl (Or.inl rfl) ?_
    first | refine wp_aload_n (pc := 74) dX6_endFile_74 rfl ?_ | refine wp_aload_nN (pc := 74) dX6_endFile_74 rfl ?_
    refine wp_dup (pc := 75) dX6_endFile_75 rfl ?_
    refine wp_getI (pc := 76) dX6_endFile_76 fl_LevelStore_244 (by first | assumption | exact Fx.ok (by assumption) (by decide)) rfl ?_
    refine wp_iconst (pc := 79) (v := 1) dX6_endFile_79 (by decide) ?_
    refine wp_iadd (pc := 80) dX6_endFile_80 ?_
    rw [ab_u2_r _ _ (show (3 : Nat) ≠ q by omega), ab_fr_at hf2 (j := 3) (by simp; omega), e3, hnf, nI_1]
    refine wp_putI (pc := 81) dX6_endFile_81 fl_LevelStore_244 (by first | assumption | exact Fx.ok (by assumption) (by decide)) rfl rfl (Or.inl rfl) ?_
    first | refine wp_aload_n (pc := 84) dX6_endFile_84 rfl ?_ | refine wp_aload_nN (pc := 84) dX6_endFile_84 rfl ?_
    refine wp_getR (pc := 85) dX6_endFile_85 fl_LevelStore_50 (by first | assumption | exact Fx.ok (by assumption) (by decide)) rfl (by first | assumption | exact Fx.ref (by assumption) rfl) ?_
    refine wp_getR (pc := 88) dX6_endFile_88 fl_LevelStore_186 (by first | assumption | exact Fx.ok (by assumption) (by decide)) rfl (by first | assumption | exact Fx.ref (by assumption) rfl) ?_
    first | refine wp_aload_n (pc := 91) dX6_endFile_91 rfl ?_ | refine wp_aload_nN (pc := 91) dX6_endFile_91 rfl ?_
    have k4 : ∀ j, j ≠ q → j ≠ 3 → ab_u2 (ab_u2 I2 q 1 (nI nf)) 3 9 (nI (nf + 1)) j = I2 j := fun j h1 h2 => by rw [ab_u2_r _ _ h2, ab_u2_r _ _ h1]
    have kq : ∀ i, ab_u2 (ab_u2 I2 q 1 (nI nf)) 3 9 (nI (nf + 1)) q i = ab_u2 I2 q 1 (nI nf) q i := fun i => ab_u2_n _ _ (Or.inl (by omega))
    have hLF4 : LF n1 S1 R1 (ab_u2 (ab_u2 I2 q 1 (nI nf)) 3 9 (nI (nf + 1))) A P1 FS1 := hLF1.keepq hS1 hnot (fun k hk => by have := xk_in hk; rw [k4 _ (by omega) (by omega), hf2 _ (by simp; omega)]) (fun j hj hjq => by rw [k4 _ (by omega) (by omega), hf2 _ (by simp; omega)])
    have hSI4 : sf_I (ab_u2 (ab_u2 I2 q 1 (nI nf)) 3 9 (nI (nf + 1))) q (nI nf, nI p, nI (enc es).length, es) := ⟨by rw [kq, ab_u2_s], by rw [kq, ab_u2_n _ _ (Or.inr (by decide))]; exact k2, by rw [kq, ab_u2_n _ _ (Or.inr (by decide))]; exact k3, hv.2.2, f, ⟨by rw [k4 _ (by omega) (by omega), hf2 _ (by simp; omega)]; exact hf.1, fun k => by rw [k4 _ (by omega) (by omega), k4 _ (by omega) (by omega), k4 _ (by omega) (by omega), hf2 _ (by simp; omega), hf2 _ (by simp; omega), hf2 _ (by simp; omega)]; exact hf.2 k⟩, hrlf⟩
    obtain ⟨e5, f5⟩ := hPF 5 (by decide)
    refine cv_LevelStore_303 (pc := 92) (s_add2 hX1 hLF4 (k := 5) (by decide) (by rw [e5]; exact h5) hS1 hSI4 hnot) rfl dX6_endFile_92 (by first | assumption | exact Fx.ok (by assumption) (by decide)) ⟨by decide, by decide, by rw [e5]; omega, by rw [e5]; omega⟩ (Nat.le_of_ble_eq_true rfl) (fun v h hp => ?_)
    obtain ⟨rfl, n5, S5, R5, I5, A5, rfl, he5, hLF5, hI5, hA5, hc5, hs5⟩ := hp
    rw [e5] at hc5 hs5
    refine wp_iconst (pc := 95) (v := 1) dX6_endFile_95 (by decide) ?_
    refine wp_ret (pc := 96) dX6_endFile_96 rfl (by first | trivial | exact Or.inl rfl | exact Or.inr rfl | assumption) ?_
    refine ⟨rfl, p, n5, S5, R5, I5, A5, _, _, rfl, he1.tr he5, hLF5, by rw [up_at, f5], fun j hj h4 => by rw [up_ne hj]; exact (hPF j h4).2, hfit, hleast, ?_, ?_, ?_, fun j hj hjn => ?_, ?_, fun k hk => ?_, ?_, hA5, hc5, hs5, ?_, ?_⟩
    · rw [hI5 21 (by omega) (by decide), k4 _ (by omega) (by decide)]; exact k21
    · have hF : (nI nf, nI p, nI (enc es).length, es) = ((nI nf, nI p, nI (enc es).length, es) : FA) := rfl
      have epl : pl (nI nf, nI p, nI (enc es).length, es) = p := by have := hfit.1; show (nI p).toInt.toNat = p; rw [tI_n (by omega)]; rfl
      have eln : ln (nI nf, nI p, nI (enc es).length, es) = (enc es).length := by show (nI (enc es).length).toInt.toNat = _; rw [tI_n (by omega)]; rfl
      have := (hT.congr (FS' := FS1) (fun k hk => (hPF k (by omega)).2)).lay (F := (nI nf, nI p, nI (enc es).length, es))
      rw [epl, eln] at this
      rw [hI5 22 (by omega) (by decide), k4 _ (by omega) (by decide), k22]
      exact this
    · have epl : pl (nI nf, nI p, nI (enc es).length, es) = p := by have := hfit.1; show (nI p).toInt.toNat = p; rw [tI_n (by omega)]; rfl
      have eln : ln (nI nf, nI p, nI (enc es).length, es) = (enc es).length := by show (nI (enc es).length).toInt.toNat = _; rw [tI_n (by omega)]; rfl
      exact (hP.congr (FS' := FS1) (fun k hk => (hPF k (by omega)).2)).lay (hT.congr (fun k hk => (hPF k (by omega)).2)) (F := (nI nf, nI p, nI (enc es).length, es)) (by rw [epl]) (by rw [eln]) (by rw [eln]; omega) (by rw [epl, eln]; exact hfit)
    · simp only [List.mem_cons, List.not_mem_nil, or_false, not_or] at hjn
      rw [hI5 j (by omega) (by show j ≠ 38; omega), k4 _ (by omega) (by omega), hf2 _ (by simp; omega)]
      exact hI1 j hj (by omega) (by omega)
    · rw [hI5 3 (by omega) (by decide), ab_u2_s]
    · rw [hI5 3 (by omega) (by decide), ab_u2_n _ _ (Or.inr hk), ab_u2_r _ _ (show (3 : Nat) ≠ q by omega), hf2 _ (by simp; omega), e3]
    · rw [hI5 33 (by omega) (by decide), k4 _ (by omega) (by decide), hf2 _ (by simp; omega)]; exact h33
    · have t2 := tot_up (P := P1) (k := 5) (l := P1 5 ++ [q]) (by decide)
      simp only [List.length_append, List.length_singleton] at t2
      have t3 : tot P1 + (P 4).length = tot P + (P1 4).length := by
        simp only [tot, (hPF 0 (by decide)).1, (hPF 1 (by decide)).1, (hPF 2 (by decide)).1, (hPF 3 (by decide)).1, (hPF 5 (by decide)).1]
        omega
      omega
    · rw [up_at, List.length_append, e5]; rfl
  · exact absurd hc (by decide)
end EF
