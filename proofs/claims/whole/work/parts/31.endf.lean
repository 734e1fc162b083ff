/-! A FILE ENDS, AND A JOB IS GIVEN UP -/
theorem isRoom_ex (FS : Nat → List FA) (len : Nat) : ∃ o, isRoom FS len o := by
  have key : ∀ p, Fit FS len p → ∃ q, Fit FS len q ∧ ∀ p', p' < q → ¬ Fit FS len p' := by
    intro p
    induction p using Nat.strongRecOn with
    | _ p ih =>
      intro hp
      by_cases h : ∃ p', p' < p ∧ Fit FS len p'
      · obtain ⟨p', h1, h2⟩ := h
        exact ih p' h1 h2
      · exact ⟨p, hp, fun p' h1 h2 => h ⟨p', h1, h2⟩⟩
  by_cases h : ∃ p, Fit FS len p
  · obtain ⟨p, hp⟩ := h
    obtain ⟨q, h1, h2⟩ := key p hp
    exact ⟨some q, Or.inl ⟨q, rfl, h1, h2⟩⟩
  · exact ⟨none, Or.inr ⟨rfl, fun p hp => h ⟨p, hp⟩⟩⟩
theorem room_is (FS : Nat → List FA) (len : Nat) : isRoom FS len (room FS len) := Classical.epsilon_spec (isRoom_ex FS len)
/-- the script and the other object stay -/
def kM (I I' : ab_II) : Prop := ∀ j, j = 2 ∨ (39 ≤ j ∧ j < 66) → I' j = I j
theorem kM.rf {I : ab_II} : kM I I := fun _ _ => rfl
theorem kM.tr {I I' I'' : ab_II} (h : kM I I') (h' : kM I' I'') : kM I I'' := fun j hj => (h' j hj).trans (h j hj)
theorem kM.of {I I' : ab_II} (h : ∀ j, j < 66 → (j < 3 ∨ 38 < j) → I' j = I j) : kM I I' := fun j hj => h j (by omega) (by omega)
theorem FS_eq {FS FS' : Nat → List FA} {sp l : List FA} (h5 : FS' 5 = l) (h : ∀ j, j ≠ 5 → j ≠ 4 → FS' j = va_up FS 4 sp j) : FS' = va_up (va_up FS 5 l) 4 (FS' 4) := by
  funext j
  by_cases h4 : j = 4
  · rw [h4, up_at]
  · rw [up_ne h4]
    by_cases hj : j = 5
    · rw [hj, up_at, h5]
    · rw [up_ne hj, h j hj h4, up_ne h4]
def cntF (FS : Nat → List FA) : Nat := (FS 0).length + (FS 1).length + (FS 2).length + (FS 3).length + (FS 5).length
section EF
variable {σ : St} {n : Nat} {S : ab_SH} {R : ab_RR} {I : ab_II} {A : AC} {P : Nat → List Nat} {sp : List FA}
theorem RC.fx (h : RC σ n S R I A P sp) : Fx n S R := h.1.1
theorem RC.lF (h : RC σ n S R I A P sp) : LF n S R I A P (va_up σ.FS 4 sp) := h.1.2.1
theorem RC.tp (h : RC σ n S R I A P sp) : tot P ≤ 331 := h.1.2.2
theorem RC.lg (h : RC σ n S R I A P sp) : rwL I 4 5 6 7 σ.log := h.2.1.1
theorem RC.c3 (h : RC σ n S R I A P sp) : rC3 σ I := h.2.1.2.1
theorem RC.v (h : RC σ n S R I A P sp) : I 8 = σ.V := h.2.1.2.2.1
theorem RC.b (h : RC σ n S R I A P sp) : I 21 = σ.B := h.2.1.2.2.2.1
theorem RC.tk (h : RC σ n S R I A P sp) : TK (I 22) σ.FS := h.2.1.2.2.2.2
theorem RC.cj (h : RC σ n S R I A P sp) : rCJ σ I := h.2.2.1
theorem RC.sr (h : RC σ n S R I A P sp) : rwL I 28 29 30 31 σ.src := h.2.2.2.1
theorem RC.mk (h : RC σ n S R I A P sp) : rwL I 33 34 35 36 σ.mak := h.2.2.2.2.1
theorem RC.bits (h : RC σ n S R I A P sp) : ∀ k, k < σ.src.length → bit (I 32 k) (σ.lo k) := h.2.2.2.2.2
theorem RC.len (h : RC σ n S R I A P sp) {k : Nat} (hk : k < 6) (h4 : k ≠ 4) : (P k).length = (σ.FS k).length := by
  have := (h.lF.1 k hk).2.1.1
  rwa [up_ne h4] at this
theorem RC.tot0 (h : RC σ n S R I A P sp) : tot P = cntF σ.FS + (P 4).length := by
  simp only [tot, cntF, h.len (k := 0) (by decide) (by decide), h.len (k := 1) (by decide) (by decide), h.len (k := 2) (by decide) (by decide), h.len (k := 3) (by decide) (by decide), h.len (k := 5) (by decide) (by decide)]
  omega
theorem RC.tk4 (h : RC σ n S R I A P sp) : TK (I 22) (va_up σ.FS 4 sp) := h.tk.congr (fun k hk => up_ne (by omega))
theorem PLC.up4 {FS : Nat → List FA} (h : PLC FS) {sp : List FA} : PLC (va_up FS 4 sp) := h.congr (fun k hk => up_ne (by omega))
theorem nil_rl {I : ab_II} {r a b c : Nat} (h : I r 3 = 0) : rwL I r a b c [] := ⟨fun k => (I a k, I b k, I c k), ⟨h, fun k => ⟨rfl, rfl, rfl⟩⟩, rfl⟩
theorem s_endF0 (h : RC σ n S R I A P sp) (h0 : σ.mak = []) : wp 8 194 0 0 MX6_endFile 0 [(0, .ref 3)] [] (n, S, R, I) (fun v h => v = some (.int 1) ∧ h = (n, S, R, I)) := by
  obtain ⟨g, hg, -⟩ := h.mk
  exact s_X6_endFile0 h.fx (by rw [hg.1, h0]; rfl)
theorem endF_nil (h0 : σ.mak = []) : σ.endF = (σ, true) := by unfold St.endF; rw [if_pos h0]
theorem endF_none (h0 : σ.mak ≠ []) (hr : room σ.FS (enc σ.mak).length = none) : σ.endF = (σ.J σ.don [], false) := by unfold St.endF; rw [if_neg h0, hr]
theorem endF_some (h0 : σ.mak ≠ []) {p : Nat} (hr : room σ.FS (enc σ.mak).length = some p) : σ.endF = ((σ.F (va_up σ.FS 5 (σ.FS 5 ++ [(nI σ.nf, nI p, nI (enc σ.mak).length, σ.mak)])) (lay21 σ.B p (enc σ.mak)) (σ.nf + 1)).J σ.don [], true) := by unfold St.endF; rw [if_neg h0, hr]
theorem s_endF_ok (h : RC σ n S R I A P sp) (hP : PLC σ.FS) (hv : vk σ.mak) (hne : σ.mak ≠ []) (hc : cntF σ.FS ≤ 329) {p : Nat} (hr : room σ.FS (enc σ.mak).length = some p) :
    wp 8 194 (5 + al_c (P 5).length (A 5).2) (80 + al_s (P 5).length (A 5).2) MX6_endFile 0 [(0, .ref 3)] [] (n, S, R, I) (fun v h => v = some (.int 1) ∧ ∃ n' S' R' I' A' P' sp', h = (n', S', R', I') ∧ ab_ex n S R n' S' R' ∧ RC σ.endF.1 n' S' R' I' A' P' sp' ∧ kM I I' ∧ (∀ j, j ≠ 5 → A' j = A j) ∧ al_c (P 5).length (A 5).2 + pC A' 5 ≤ pC A 5 ∧ al_s (P 5).length (A 5).2 + pS A' 5 ≤ pS A 5) := by
  obtain ⟨g, hg, hrl⟩ := h.mk
  have hr0 := room_is σ.FS (enc σ.mak).length
  rw [hr] at hr0
  have hlp := enc_pos σ.mak
  obtain ⟨p0, e0, hf, hl⟩ : ∃ p0, some p = some p0 ∧ Fit σ.FS (enc σ.mak).length p0 ∧ ∀ p', p' < p0 → ¬ Fit σ.FS (enc σ.mak).length p' := by
    rcases hr0 with hr0 | ⟨q, -⟩
    · exact hr0
    · cases q
  cases e0
  have hfi : ∀ p, fits1 (I 22) (enc σ.mak).length p ↔ Fit σ.FS (enc σ.mak).length p := fun p => fit_iff h.tk hP (by omega)
  have h5 := h.len (k := 5) (by decide) (by decide)
  have ht := h.tot0
  have e55 : va_up σ.FS 4 sp 5 = σ.FS 5 := up_ne (by decide)
  refine wp_post (fun v hh hp => ?_) (s_X6_endFile_ok h.fx h.lF hg hrl hv hne h.tk4 hP.up4 σ.nf h.c3.2.2 h.tp (fun q => by omega) (by simp only [cntF] at hc; omega) ⟨p, (hfi p).mpr hf⟩)
  obtain ⟨rfl, p1, n', S', R', I', A', P', FS', rfl, he, hLF, hF5, hFo, hfit, hleast, h21, hTK, hPL, hI, h39, h3k, h33, hA, hcA, hsA, htot, hP5⟩ := hp
  have epp : some p1 = some p := isRoom.uniq (Or.inl ⟨p1, rfl, (hfi p1).mp hfit, fun p' hp' q => hleast p' hp' ((hfi p').mpr q)⟩) (Or.inl ⟨p, rfl, hf, hl⟩)
  cases epp
  rw [e55] at hF5
  have hFS := FS_eq (FS := σ.FS) (sp := sp) hF5 hFo
  refine ⟨rfl, n', S', R', I', A', P', FS' 4, rfl, he, ?_, kM.of (fun j h1 h2 => hI j h1 (by simp; omega)), hA, hcA, hsA⟩
  rw [endF_some hne hr]
  refine ⟨⟨h.fx.ex he, by rw [hFS] at hLF; exact hLF, htot⟩, ⟨h.lg.keep (hI _ (by decide) (by decide)) (hI _ (by decide) (by decide)) (hI _ (by decide) (by decide)) (hI _ (by decide) (by decide)), ⟨by rw [h3k _ (by decide)]; exact h.c3.1, by rw [h3k _ (by decide)]; exact h.c3.2.1, h39⟩, by rw [hI 8 (by decide) (by decide)]; exact h.v, by rw [h21, h.b]; rfl, hTK.congr (fun k hk => ?_)⟩, ?_, h.sr.keep (hI _ (by decide) (by decide)) (hI _ (by decide) (by decide)) (hI _ (by decide) (by decide)) (hI _ (by decide) (by decide)), nil_rl h33, fun k hk => by rw [hI 32 (by decide) (by decide)]; exact h.bits k hk⟩
  · rw [hFS, up_ne (by omega)]
    rfl
  · have e27 := hI 27 (by decide) (by decide)
    unfold rCJ
    rw [e27]
    exact h.cj
def c4 (A : AC) (P : Nat → List Nat) : Nat := if (P 4).length = 0 then al_c 0 (A 4).2 else 0
def s4 (A : AC) (P : Nat → List Nat) : Nat := if (P 4).length = 0 then al_s 0 (A 4).2 else 0
theorem s_endF_fail (h : RC σ n S R I A P sp) (hP : PLC σ.FS) (hv : vk σ.mak) (hne : σ.mak ≠ []) (hc : cntF σ.FS ≤ 329) (hr : room σ.FS (enc σ.mak).length = none) :
    wp 8 194 (5 + c4 A P) (80 + s4 A P) MX6_endFile 0 [(0, .ref 3)] [] (n, S, R, I) (fun v h => v = some (.int 0) ∧ ∃ n' S' R' I' A' P' sp', h = (n', S', R', I') ∧ ab_ex n S R n' S' R' ∧ RC σ.endF.1 n' S' R' I' A' P' sp' ∧ kM I I' ∧ (∀ j, j ≠ 4 → A' j = A j) ∧ c4 A P + pC A' 4 ≤ pC A 4 ∧ s4 A P + pS A' 4 ≤ pS A 4) := by
  obtain ⟨g, hg, hrl⟩ := h.mk
  have hr0 := room_is σ.FS (enc σ.mak).length
  rw [hr] at hr0
  have hlp := enc_pos σ.mak
  have hno : ∀ p, ¬ Fit σ.FS (enc σ.mak).length p := by
    rcases hr0 with ⟨p, q, -⟩ | ⟨-, q⟩
    · cases q
    · exact q
  have hfi : ∀ p, fits1 (I 22) (enc σ.mak).length p ↔ Fit σ.FS (enc σ.mak).length p := fun p => fit_iff h.tk hP (by omega)
  have ht := h.tot0
  have htp := h.tp
  have h66 := h.fx.1
  have hl := enc_len hv
  refine s_X6_endFile_pre h.fx h.lF hg hrl hv hne _ _ _ (by omega) (by omega) (fun q F n1 S1 R1 I1 P1 FS1 f he1 hX1 hLF1 hS1 hf hrlf hq1 hnot hI1 h33 hPF hlen => ?_)
  have oq := hS1.2.1
  have hq66 := hS1.1
  have e22 : I1 22 = I 22 := hI1 22 (by omega) (by decide) (by decide)
  have hn1 := he1.1
  have hP4 : c4 A P = al_c (P1 4).length (A 4).2 ∧ s4 A P = al_s (P1 4).length (A 4).2 := by
    have hcap : (P 4).length ≤ (A 4).2 := (h.lF.1 4 (by decide)).1.2.2.2.1
    unfold c4 s4
    rcases hlen with hl1 | ⟨hl1, hl2⟩
    · rw [if_neg (by omega), if_neg (by omega)]
      unfold al_c al_s
      rw [if_neg (by omega), if_neg (by omega)]
      exact ⟨rfl, rfl⟩
    · rw [if_pos hl1, if_pos hl1, hl2]
      exact ⟨rfl, rfl⟩
  first | refine wp_aload_n (pc := 45) dX6_endFile_45 rfl ?_ | refine wp_aload_nN (pc := 45) dX6_endFile_45 rfl ?_
  refine wp_getR (pc := 46) dX6_endFile_46 fl_LevelStore_36 (by first | assumption | exact Fx.ok (by assumption) (by decide)) rfl (by first | assumption | exact Fx.ref (by assumption) rfl) ?_
  first | refine wp_aload_n (pc := 49) dX6_endFile_49 rfl ?_ | refine wp_aload_nN (pc := 49) dX6_endFile_49 rfl ?_
  refine cv_LevelStore_300 (pc := 50) (s_X0_lay hX1 hS1 hv f hf hrlf (fun j => by rw [e22]; exact h.tk.1 j)) rfl dX6_endFile_50 (by first | assumption | exact Fx.ok (by assumption) (by decide)) ⟨by decide, by decide, Nat.zero_le _, Nat.zero_le _⟩ (Nat.le_of_ble_eq_true rfl) (fun v h hp => ?_)
  obtain ⟨I2, rfl, hp⟩ := hp
  rw [e22] at hp
  rcases hp with ⟨rfl, hf2, -⟩ | ⟨p, rfl, hfit, -⟩
  case inr => exact absurd ((hfi p).mp hfit) (hno p)
  refine wp_if_ne (pc := 53) (tgt := 66) dX6_endFile_53 (by decide) (fun hc => ?_) (fun hc => ?_)
  · exact absurd rfl hc
  · skip
    first | refine wp_aload_n (pc := 56) dX6_endFile_56 rfl ?_ | refine wp_aload_nN (pc := 56) dX6_endFile_56 rfl ?_
    refine wp_getR (pc := 57) dX6_endFile_57 fl_LevelStore_29 (by first | assumption | exact Fx.ok (by assumption) (by decide)) rfl (by first | assumption | exact Fx.ref (by assumption) rfl) ?_
    first | refine wp_aload_n (pc := 60) dX6_endFile_60 rfl ?_ | refine wp_aload_nN (pc := 60) dX6_endFile_60 rfl ?_
    have hLF2 : LF n1 S1 R1 I2 A P1 FS1 := hLF1.keep (fun k hk => by have := xk_in hk; rw [hf2 _ (by simp; omega)]) (fun j hj => hf2 j (by simp; omega))
    have hSI2 : sf_I I2 q (I2 q 1, I2 q 2, I2 q 3, σ.mak) := ⟨rfl, rfl, rfl, hv.2.2, f, ⟨by rw [hf2 _ (by simp; omega)]; exact hf.1, fun k => by rw [hf2 _ (by simp; omega), hf2 _ (by simp; omega), hf2 _ (by simp; omega)]; exact hf.2 k⟩, hrlf⟩
    refine cv_LevelStore_303 (pc := 61) (s_add2 hX1 hLF2 (k := 4) (by decide) (by omega) hS1 hSI2 hnot) rfl dX6_endFile_61 (by first | assumption | exact Fx.ok (by assumption) (by decide)) ⟨by decide, by decide, by omega, by omega⟩ (Nat.le_of_ble_eq_true rfl) (fun v h hp => ?_)
    obtain ⟨rfl, n5, S5, R5, I5, A5, rfl, he5, hLF5, hI5, hA5, hc5, hs5⟩ := hp
    refine wp_iconst (pc := 64) (v := 0) dX6_endFile_64 (by decide) ?_
    refine wp_ret (pc := 65) dX6_endFile_65 rfl (by first | trivial | exact Or.inl rfl | exact Or.inr rfl | assumption) ?_
    have hI : ∀ j, j < 66 → j ∉ [19, 20, 23, 33] → I5 j = I j := fun j hj hjn => by
      simp only [List.mem_cons, List.not_mem_nil, or_false, not_or] at hjn
      rw [hI5 j (by omega) (by show j ≠ 19; omega), hf2 _ (by simp; omega), hI1 j hj (by omega) (by omega)]
    have hFS : va_up FS1 4 (FS1 4 ++ [(I2 q 1, I2 q 2, I2 q 3, σ.mak)]) = va_up σ.FS 4 (FS1 4 ++ [(I2 q 1, I2 q 2, I2 q 3, σ.mak)]) := by
      funext j
      by_cases h4 : j = 4
      · rw [h4, up_at, up_at]
      · rw [up_ne h4, up_ne h4, (hPF j h4).2, up_ne h4]
    refine ⟨rfl, n5, S5, R5, I5, A5, va_up P1 4 (P1 4 ++ [q]), FS1 4 ++ [(I2 q 1, I2 q 2, I2 q 3, σ.mak)], rfl, he1.tr he5, ?_, kM.of (fun j h1 h2 => hI j h1 (by simp; omega)), hA5, by omega, by omega⟩
    rw [endF_none hne hr]
    refine ⟨⟨hX1.ex he5, by rw [hFS] at hLF5; exact hLF5, ?_⟩, ⟨h.lg.keep (hI _ (by decide) (by decide)) (hI _ (by decide) (by decide)) (hI _ (by decide) (by decide)) (hI _ (by decide) (by decide)), ⟨by rw [hI 3 (by decide) (by decide)]; exact h.c3.1, by rw [hI 3 (by decide) (by decide)]; exact h.c3.2.1, by rw [hI 3 (by decide) (by decide)]; exact h.c3.2.2⟩, by rw [hI 8 (by decide) (by decide)]; exact h.v, by rw [hI 21 (by decide) (by decide)]; exact h.b, by rw [hI 22 (by decide) (by decide)]; exact h.tk⟩, ?_, h.sr.keep (hI _ (by decide) (by decide)) (hI _ (by decide) (by decide)) (hI _ (by decide) (by decide)) (hI _ (by decide) (by decide)), nil_rl ?_, fun k hk => by rw [hI 32 (by decide) (by decide)]; exact h.bits k hk⟩
    · have t2 := tot_up (P := P1) (k := 4) (l := P1 4 ++ [q]) (by decide)
      simp only [List.length_append, List.length_singleton] at t2
      have t3 : tot P1 + (P 4).length = tot P + (P1 4).length := by
        simp only [tot, (hPF 0 (by decide)).1, (hPF 1 (by decide)).1, (hPF 2 (by decide)).1, (hPF 3 (by decide)).1, (hPF 5 (by decide)).1]
        omega
      omega
    · have e27 := hI 27 (by decide) (by decide)
      unfold rCJ
      rw [e27]
      exact h.cj
    · rw [hI5 33 (by omega) (by decide), hf2 33 (by simp), h33]
end EF
