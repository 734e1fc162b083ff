/-! ONE ENTRY OF A JOB -/
noncomputable def eC (σ : St) (A : AC) (P : Nat → List Nat) : Nat := if σ.mak = [] then 0 else match room σ.FS (enc σ.mak).length with
  | none => 5 + c4 A P
  | some _ => 5 + al_c (P 5).length (A 5).2
noncomputable def eS (σ : St) (A : AC) (P : Nat → List Nat) : Nat := if σ.mak = [] then 0 else match room σ.FS (enc σ.mak).length with
  | none => 80 + s4 A P
  | some _ => 80 + al_s (P 5).length (A 5).2
def fC (A : AC) : Nat := pC A 5 + pC A 4
def fS (A : AC) : Nat := pS A 5 + pS A 4
theorem wp_b {fr lo mc ms : Nat} {M : ab_MT} {pc : Nat} {L : List (Nat × Value)} {st : List Value} {h : ab_M} {post : ab_Po} {mc' ms' : Nat} (h1 : mc' = mc) (h2 : ms' = ms) (hw : wp fr lo mc' ms' M pc L st h post) : wp fr lo mc ms M pc L st h post := by
  subst h1; subst h2; exact hw
theorem pC_c {A A' : AC} {k : Nat} (h : A' k = A k) : pC A' k = pC A k := by unfold pC; rw [h]
theorem pS_c {A A' : AC} {k : Nat} (h : A' k = A k) : pS A' k = pS A k := by unfold pS; rw [h]
def bI (b : Bool) : Int32 := if b then 1 else 0
section DE
variable {σ : St} {n : Nat} {S : ab_SH} {R : ab_RR} {I : ab_II} {A : AC} {P : Nat → List Nat} {sp : List FA}
theorem s_endF (h : RC σ n S R I A P sp) (hP : PLC σ.FS) (hv : vk σ.mak) (hc : cntF σ.FS ≤ 329) :
    wp 8 194 (eC σ A P) (eS σ A P) MX6_endFile 0 [(0, .ref 3)] [] (n, S, R, I) (fun v h => v = some (.int (bI σ.endF.2)) ∧ ∃ n' S' R' I' A' P' sp', h = (n', S', R', I') ∧ ab_ex n S R n' S' R' ∧ RC σ.endF.1 n' S' R' I' A' P' sp' ∧ kM I I' ∧ eC σ A P + fC A' ≤ (if σ.mak = [] then 0 else 5) + fC A ∧ eS σ A P + fS A' ≤ (if σ.mak = [] then 0 else 80) + fS A) := by
  by_cases hne : σ.mak = []
  · refine wp_b (mc' := 0) (ms' := 0) (by unfold eC; rw [if_pos hne]) (by unfold eS; rw [if_pos hne]) (wp_post (fun v hh hp => ?_) (s_endF0 h hne))
    obtain ⟨rfl, rfl⟩ := hp
    rw [endF_nil hne]
    refine ⟨rfl, n, S, R, I, A, P, sp, rfl, ab_ex.rf, h, kM.rf, ?_, ?_⟩
    · unfold eC; rw [if_pos hne, if_pos hne]; exact Nat.le_refl _
    · unfold eS; rw [if_pos hne, if_pos hne]; exact Nat.le_refl _
  · cases hr : room σ.FS (enc σ.mak).length with
    | none =>
      have e1 : eC σ A P = 5 + c4 A P := by unfold eC; rw [if_neg hne, hr]
      have e2 : eS σ A P = 80 + s4 A P := by unfold eS; rw [if_neg hne, hr]
      rw [e1, e2, if_neg hne, if_neg hne]
      refine wp_post (fun v hh hp => ?_) (s_endF_fail h hP hv hne hc hr)
      obtain ⟨rfl, n', S', R', I', A', P', sp', rfl, he, hRC, hk, hA, h1, h2⟩ := hp
      refine ⟨by rw [endF_none hne hr]; rfl, n', S', R', I', A', P', sp', rfl, he, hRC, hk, ?_, ?_⟩
      · unfold fC; rw [pC_c (hA 5 (by decide))]; omega
      · unfold fS; rw [pS_c (hA 5 (by decide))]; omega
    | some p =>
      have e1 : eC σ A P = 5 + al_c (P 5).length (A 5).2 := by unfold eC; rw [if_neg hne, hr]
      have e2 : eS σ A P = 80 + al_s (P 5).length (A 5).2 := by unfold eS; rw [if_neg hne, hr]
      rw [e1, e2, if_neg hne, if_neg hne]
      refine wp_post (fun v hh hp => ?_) (s_endF_ok h hP hv hne hc hr)
      obtain ⟨rfl, n', S', R', I', A', P', sp', rfl, he, hRC, hk, hA, h1, h2⟩ := hp
      refine ⟨by rw [endF_some hne hr]; rfl, n', S', R', I', A', P', sp', rfl, he, hRC, hk, ?_, ?_⟩
      · unfold fC; rw [pC_c (hA 4 (by decide))]; omega
      · unfold fS; rw [pS_c (hA 4 (by decide))]; omega
/-- whether the next entry begins another file -/
def St.cut (σ : St) : Prop := σ.tgt ≠ 0 ∧ 8 ≤ σ.mak.length ∧ (gk σ.mak).toInt ≠ (lfn σ.src σ.don).1.toInt
theorem doE_lo (h : σ.lo σ.don) : σ.doE = (σ.J (σ.don + 1) σ.mak, true) := by unfold St.doE; rw [if_pos h]
theorem doE_no (h : ¬ σ.lo σ.don) (hc : ¬ σ.cut) : σ.doE = (σ.J (σ.don + 1) (σ.mak ++ [lfn σ.src σ.don]), true) := by unfold St.doE; rw [if_neg h]; unfold St.cut at hc; rw [if_neg hc]
theorem doE_cut (h : ¬ σ.lo σ.don) (hc : σ.cut) : σ.doE = (if (σ.J (σ.don + 1) σ.mak).endF.2 then ((σ.J (σ.don + 1) σ.mak).endF.1.J (σ.don + 1) [lfn σ.src σ.don], true) else ((σ.J (σ.don + 1) σ.mak).endF.1, false)) := by unfold St.doE; rw [if_neg h]; unfold St.cut at hc; rw [if_pos hc]
theorem lfn_rl {es : List En} {g : Nat → En} (h : rl es.length g = es) {k : Nat} (hk : k < es.length) : g k = lfn es k := by
  have h1 := rl_get (f := g) hk
  rw [h] at h1
  unfold lfn
  rw [List.getD_eq_getElem?_getD, h1]
  rfl
theorem gk_rl2 {es : List En} {g : Nat → En} (h : rl es.length g = es) (hk : 0 < es.length) : (g (es.length - 1)).1 = gk es := by
  have h1 := rl_get (f := g) (s := es.length) (k := es.length - 1) (by omega)
  rw [h] at h1
  unfold gk
  rw [List.getLast?_eq_getElem?, h1]
theorem endF_mak : σ.endF.2 = true → σ.endF.1.mak = [] := by
  intro h
  by_cases hne : σ.mak = []
  · rw [endF_nil hne]; exact hne
  · cases hr : room σ.FS (enc σ.mak).length with
    | none => rw [endF_none hne hr]; rfl
    | some p => rw [endF_some hne hr]; rfl
theorem endF_same : σ.endF.1.don = σ.don ∧ σ.endF.1.src = σ.src ∧ σ.endF.1.job = σ.job ∧ σ.endF.1.tgt = σ.tgt ∧ σ.endF.1.pos = σ.pos ∧ σ.endF.1.JV = σ.JV ∧ σ.endF.1.1 = σ.1 := by
  by_cases hne : σ.mak = []
  · rw [endF_nil hne]; exact ⟨rfl, rfl, rfl, rfl, rfl, rfl, rfl⟩
  · cases hr : room σ.FS (enc σ.mak).length with
    | none => rw [endF_none hne hr]; exact ⟨rfl, rfl, rfl, rfl, rfl, rfl, rfl⟩
    | some p => rw [endF_some hne hr]; exact ⟨rfl, rfl, rfl, rfl, rfl, rfl, rfl⟩
/-- one more done -/
theorem RC.done (h : RC σ n S R I A P sp) {d : Nat} : RC (σ.J d σ.mak) n S R (ab_u2 I 27 9 (nI d)) A P sp := by
  have k : ∀ j, j ≠ 27 → ab_u2 I 27 9 (nI d) j = I j := fun j hj => ab_u2_r _ _ hj
  refine ⟨⟨h.fx, h.lF.keep (fun i hi => k _ (by have := xk_in hi; omega)) (fun j hj => k j (by omega)), h.tp⟩, ⟨h.lg.keep (k _ (by decide)) (k _ (by decide)) (k _ (by decide)) (k _ (by decide)), ⟨h.c3.1, h.c3.2.1, h.c3.2.2⟩, h.v, h.b, h.tk⟩, ⟨h.cj.1, rfl, fun q => h.cj.2.2 q⟩, h.sr.keep (k _ (by decide)) (k _ (by decide)) (k _ (by decide)) (k _ (by decide)), h.mk.keep (k _ (by decide)) (k _ (by decide)) (k _ (by decide)) (k _ (by decide)), h.bits⟩
/-- the row that is being made changes -/
theorem RC.made (h : RC σ n S R I A P sp) {I' : ab_II} {es : List En} (hf : ab_fr I I' [33, 34, 35, 36]) (hr : rwL I' 33 34 35 36 es) : RC (σ.J σ.don es) n S R I' A P sp := by
  have k : ∀ j, j ∉ [33, 34, 35, 36] → I' j = I j := fun j hj => hf j hj
  refine ⟨⟨h.fx, h.lF.keep (fun i hi => k _ (by have := xk_in hi; simp; omega)) (fun j hj => k j (by simp; omega)), h.tp⟩, ⟨h.lg.keep (k _ (by decide)) (k _ (by decide)) (k _ (by decide)) (k _ (by decide)), ?_, by rw [k _ (by decide)]; exact h.v, by rw [k _ (by decide)]; exact h.b, by rw [k _ (by decide)]; exact h.tk⟩, ?_, h.sr.keep (k _ (by decide)) (k _ (by decide)) (k _ (by decide)) (k _ (by decide)), hr, fun j hj => by rw [k _ (by decide)]; exact h.bits j hj⟩
  · have := h.c3
    unfold rC3 at this ⊢
    rw [k 3 (by decide)]
    exact this
  · have := h.cj
    unfold rCJ at this ⊢
    rw [k 27 (by decide)]
    exact this
noncomputable def dC (σ : St) (A : AC) (P : Nat → List Nat) : Nat := @ite _ (σ.lo σ.don) (Classical.propDecidable _) 0 (@ite _ σ.cut (Classical.propDecidable _) (eC σ A P) 0)
noncomputable def dS (σ : St) (A : AC) (P : Nat → List Nat) : Nat := @ite _ (σ.lo σ.don) (Classical.propDecidable _) 0 (@ite _ σ.cut (Classical.propDecidable _) (eS σ A P) 0)
noncomputable def St.ct (σ : St) : Nat := @ite _ (¬ σ.lo σ.don ∧ σ.cut) (Classical.propDecidable _) 1 0
/-- the entry is added -/
theorem s_doE_tail (h : RC σ n S R I A P sp) (hX : Fx n S R) {k : Nat} (hk : k < σ.src.length) (hs : σ.src.length ≤ 750) (hm : σ.mak.length < 24) (post : ab_Po) (mc ms : Nat)
    (hpost : ∀ I', kM I I' → RC (σ.J σ.don (σ.mak ++ [lfn σ.src k])) n S R I' A P sp → post (some (.int 1)) (n, S, R, I')) :
    wp 9 215 mc ms MX6_doOneEntry 54 [(0, .ref 3), (1, .int (nI k))] [] (n, S, R, I) post := by
  obtain ⟨f, hf, hrl⟩ := h.sr
  obtain ⟨g, hg, hgl⟩ := h.mk
  have ek : (nI k).toInt = k := tI_n (by omega)
  have e1 : rk_1 σ.src.length f (nI k) = (lfn σ.src k).1 := by rw [rk_1, if_pos (by omega), ek, Int.toNat_natCast, lfn_rl hrl hk]
  have e2 : rk_2 σ.src.length f (nI k) = (lfn σ.src k).2.1 := by rw [rk_2, if_pos (by omega), ek, Int.toNat_natCast, lfn_rl hrl hk]
  have e3 : rk_3 σ.src.length f (nI k) = (lfn σ.src k).2.2 := by rw [rk_3, if_pos (by omega), ek, Int.toNat_natCast, lfn_rl hrl hk]
  first | refine wp_aload_n (pc := 54) dX6_doOneEntry_54 rfl ?_ | refine wp_aload_nN (pc := 54) dX6_doOneEntry_54 rfl ?_
  refine wp_getR (pc := 55) dX6_doOneEntry_55 fl_LevelStore_50 (by first | assumption | exact Fx.ok (by assumption) (by decide)) rfl (by first | assumption | exact Fx.ref (by assumption) rfl) ?_
  refine wp_getR (pc := 58) dX6_doOneEntry_58 fl_LevelStore_290 (by first | assumption | exact Fx.ok (by assumption) (by decide)) rfl (by first | assumption | exact Fx.ref (by assumption) rfl) ?_
  first | refine wp_aload_n (pc := 61) dX6_doOneEntry_61 rfl ?_ | refine wp_aload_nN (pc := 61) dX6_doOneEntry_61 rfl ?_
  refine wp_getR (pc := 62) dX6_doOneEntry_62 fl_LevelStore_50 (by first | assumption | exact Fx.ok (by assumption) (by decide)) rfl (by first | assumption | exact Fx.ref (by assumption) rfl) ?_
  refine wp_getR (pc := 65) dX6_doOneEntry_65 fl_LevelStore_124 (by first | assumption | exact Fx.ok (by assumption) (by decide)) rfl (by first | assumption | exact Fx.ref (by assumption) rfl) ?_
  refine wp_iload_n (pc := 68) dX6_doOneEntry_68 rfl ?_
  refine cv_LevelStore_127 (pc := 69) (s_X4_key hX.src hf hs (nI k)) rfl dX6_doOneEntry_69 (by first | assumption | exact Fx.ok (by assumption) (by decide)) ⟨by decide, by decide, Nat.zero_le _, Nat.zero_le _⟩ (Nat.le_of_ble_eq_true rfl) (fun v h hp => ?_)
  obtain ⟨rfl, rfl⟩ := hp
  first | refine wp_aload_n (pc := 72) dX6_doOneEntry_72 rfl ?_ | refine wp_aload_nN (pc := 72) dX6_doOneEntry_72 rfl ?_
  refine wp_getR (pc := 73) dX6_doOneEntry_73 fl_LevelStore_50 (by first | assumption | exact Fx.ok (by assumption) (by decide)) rfl (by first | assumption | exact Fx.ref (by assumption) rfl) ?_
  refine wp_getR (pc := 76) dX6_doOneEntry_76 fl_LevelStore_124 (by first | assumption | exact Fx.ok (by assumption) (by decide)) rfl (by first | assumption | exact Fx.ref (by assumption) rfl) ?_
  refine wp_iload_n (pc := 79) dX6_doOneEntry_79 rfl ?_
  refine cv_LevelStore_130 (pc := 80) (s_X4_number hX.src hf hs (nI k)) rfl dX6_doOneEntry_80 (by first | assumption | exact Fx.ok (by assumption) (by decide)) ⟨by decide, by decide, Nat.zero_le _, Nat.zero_le _⟩ (Nat.le_of_ble_eq_true rfl) (fun v h hp => ?_)
  obtain ⟨rfl, rfl⟩ := hp
  first | refine wp_aload_n (pc := 83) dX6_doOneEntry_83 rfl ?_ | refine wp_aload_nN (pc := 83) dX6_doOneEntry_83 rfl ?_
  refine wp_getR (pc := 84) dX6_doOneEntry_84 fl_LevelStore_50 (by first | assumption | exact Fx.ok (by assumption) (by decide)) rfl (by first | assumption | exact Fx.ref (by assumption) rfl) ?_
  refine wp_getR (pc := 87) dX6_doOneEntry_87 fl_LevelStore_124 (by first | assumption | exact Fx.ok (by assumption) (by decide)) rfl (by first | assumption | exact Fx.ref (by assumption) rfl) ?_
  refine wp_iload_n (pc := 90) dX6_doOneEntry_90 rfl ?_
  refine cv_LevelStore_133 (pc := 91) (s_X4_value hX.src hf hs (nI k)) rfl dX6_doOneEntry_91 (by first | assumption | exact Fx.ok (by assumption) (by decide)) ⟨by decide, by decide, Nat.zero_le _, Nat.zero_le _⟩ (Nat.le_of_ble_eq_true rfl) (fun v h hp => ?_)
  obtain ⟨rfl, rfl⟩ := hp
  rw [e1, e2, e3]
  refine cv_LevelStore_255 (pc := 94) (s_X4_add hX.mak hg hm _ _ _) rfl dX6_doOneEntry_94 (by first | assumption | exact Fx.ok (by assumption) (by decide)) ⟨by decide, by decide, Nat.zero_le _, Nat.zero_le _⟩ (Nat.le_of_ble_eq_true rfl) (fun v h hp => ?_)
  obtain ⟨rfl, I', rfl, hfr, hr⟩ := hp
  refine wp_iconst (pc := 97) (v := 1) dX6_doOneEntry_97 (by decide) ?_
  refine wp_ret (pc := 98) dX6_doOneEntry_98 rfl (by first | trivial | exact Or.inl rfl | exact Or.inr rfl | assumption) ?_
  refine hpost I' (fun j hj => hfr j (by simp; omega)) (h.made hfr ⟨_, by rw [List.length_append]; exact hr, ?_⟩)
  rw [List.length_append]
  show rl (σ.mak.length + 1) _ = _
  rw [rl_succ]
  congr 1
  · rw [← hgl]
    rw [rl_len]
    exact rl_congr (fun j hj => by simp [va_up, Nat.ne_of_lt hj])
  · simp [va_up]
theorem s_doE (h : RC σ n S R I A P sp) (hj : σ.job = true) (hd : σ.don < σ.src.length) (hs : σ.src.length ≤ 750) (hm : ¬ σ.lo σ.don → ¬ σ.cut → σ.mak.length < 24) (hP : PLC σ.FS) (hv : vk σ.mak) (hc : cntF σ.FS ≤ 329) (htg : σ.tgt ≤ 3) :
    wp 9 215 (dC σ A P) (dS σ A P) MX6_doOneEntry 0 [(0, .ref 3)] [] (n, S, R, I) (fun v h => v = some (.int (bI σ.doE.2)) ∧ ∃ n' S' R' I' A' P' sp', h = (n', S', R', I') ∧ ab_ex n S R n' S' R' ∧ RC σ.doE.1 n' S' R' I' A' P' sp' ∧ kM I I' ∧ dC σ A P + fC A' ≤ 5 * σ.ct + fC A ∧ dS σ A P + fS A' ≤ 80 * σ.ct + fS A) := by
  have hX := h.fx
  obtain ⟨f, hf, hrl⟩ := h.sr
  obtain ⟨g, hg, hgl⟩ := h.mk
  have e27 : I 27 9 = nI σ.don := h.cj.2.1
  have h1 := h.done (d := σ.don + 1)
  have hbit := h.bits σ.don hd
  have k27 : ∀ j, j ≠ 27 → ab_u2 I 27 9 (nI (σ.don + 1)) j = I j := fun j hj => ab_u2_r _ _ hj
  have hkM : kM I (ab_u2 I 27 9 (nI (σ.don + 1))) := fun j hj => k27 j (by omega)
  have hf1 : rw_I (ab_u2 I 27 9 (nI (σ.don + 1))) 28 29 30 31 σ.src.length f := hf
  have hg1 : rw_I (ab_u2 I 27 9 (nI (σ.don + 1))) 33 34 35 36 σ.mak.length g := hg
  have htg1 : (nI σ.tgt - 1).toInt = (σ.tgt : Int) - 1 := by
    have e : (nI σ.tgt).toInt = σ.tgt := tI_n (by omega)
    rw [tI_sub (by rw [tl_1]; omega) (by rw [tl_1]; omega), tl_1, e]
  have hcut : ((ab_u2 I 27 9 (nI (σ.don + 1)) 27 1).toInt ≠ -1 ∧ 8 ≤ σ.mak.length ∧ (g (σ.mak.length - 1)).1.toInt ≠ (f σ.don).1.toInt) ↔ σ.cut := by
    rw [show ab_u2 I 27 9 (nI (σ.don + 1)) 27 1 = nI σ.tgt - 1 from (h.cj.2.2 hj).1, htg1, lfn_rl hrl hd]
    unfold St.cut
    constructor
    · rintro ⟨a, b, c⟩
      rw [gk_rl2 hgl (by omega)] at c
      exact ⟨by omega, b, c⟩
    · rintro ⟨a, b, c⟩
      rw [gk_rl2 hgl (by omega)]
      exact ⟨by omega, b, c⟩
  have hctl : σ.lo σ.don → σ.ct = 0 := fun q => by unfold St.ct; rw [if_neg (fun z => z.1 q)]
  have hct0 : ¬ σ.cut → σ.ct = 0 := fun q => by unfold St.ct; rw [if_neg (fun z => q z.2)]
  have hct1 : ¬ σ.lo σ.don → σ.cut → σ.ct = 1 := fun q z => by unfold St.ct; rw [if_pos ⟨q, z⟩]
  first | refine wp_aload_n (pc := 0) dX6_doOneEntry_0 rfl ?_ | refine wp_aload_nN (pc := 0) dX6_doOneEntry_0 rfl ?_
  refine wp_getR (pc := 1) dX6_doOneEntry_1 fl_LevelStore_50 (by first | assumption | exact Fx.ok (by assumption) (by decide)) rfl (by first | assumption | exact Fx.ref (by assumption) rfl) ?_
  refine wp_getI (pc := 4) dX6_doOneEntry_4 fl_LevelStore_281 (by first | assumption | exact Fx.ok (by assumption) (by decide)) rfl ?_
  refine wp_istore_n (pc := 7) dX6_doOneEntry_7 (by decide) rfl ?_
  first | refine wp_aload_n (pc := 8) dX6_doOneEntry_8 rfl ?_ | refine wp_aload_nN (pc := 8) dX6_doOneEntry_8 rfl ?_
  refine wp_getR (pc := 9) dX6_doOneEntry_9 fl_LevelStore_50 (by first | assumption | exact Fx.ok (by assumption) (by decide)) rfl (by first | assumption | exact Fx.ref (by assumption) rfl) ?_
  refine wp_dup (pc := 12) dX6_doOneEntry_12 rfl ?_
  refine wp_getI (pc := 13) dX6_doOneEntry_13 fl_LevelStore_281 (by first | assumption | exact Fx.ok (by assumption) (by decide)) rfl ?_
  refine wp_iconst (pc := 16) (v := 1) dX6_doOneEntry_16 (by decide) ?_
  refine wp_iadd (pc := 17) dX6_doOneEntry_17 ?_
  rw [e27, nI_1]
  refine wp_putI (pc := 18) dX6_doOneEntry_18 fl_LevelStore_281 (by first | assumption | exact Fx.ok (by assumption) (by decide)) rfl rfl (Or.inl rfl) ?_
  first | refine wp_aload_n (pc := 21) dX6_doOneEntry_21 rfl ?_ | refine wp_aload_nN (pc := 21) dX6_doOneEntry_21 rfl ?_
  refine wp_getR (pc := 22) dX6_doOneEntry_22 fl_LevelStore_50 (by first | assumption | exact Fx.ok (by assumption) (by decide)) rfl (by first | assumption | exact Fx.ref (by assumption) rfl) ?_
  refine wp_iload_n (pc := 25) dX6_doOneEntry_25 rfl ?_
  refine cv_LevelStore_284 (pc := 26) (s_X2_isLeftOut hX σ.don (by omega)) rfl dX6_doOneEntry_26 (by first | assumption | exact Fx.ok (by assumption) (by decide)) ⟨by decide, by decide, Nat.zero_le _, Nat.zero_le _⟩ (Nat.le_of_ble_eq_true rfl) (fun v h hp => ?_)
  obtain ⟨rfl, rfl⟩ := hp
  refine wp_if_eq (pc := 29) (tgt := 34) dX6_doOneEntry_29 (by decide) (fun hc => ?_) (fun hc => ?_)
  · have hz : I 32 σ.don = 0 := Decidable.byContradiction fun q => by rw [show ab_u2 I 27 9 (nI (σ.don + 1)) 32 = I 32 from k27 32 (by decide), if_neg q] at hc; exact absurd hc (by decide)
    have hlo := hbit.z hz
    first | refine wp_aload_n (pc := 34) dX6_doOneEntry_34 rfl ?_ | refine wp_aload_nN (pc := 34) dX6_doOneEntry_34 rfl ?_
    refine wp_getR (pc := 35) dX6_doOneEntry_35 fl_LevelStore_50 (by first | assumption | exact Fx.ok (by assumption) (by decide)) rfl (by first | assumption | exact Fx.ref (by assumption) rfl) ?_
    refine wp_iload_n (pc := 38) dX6_doOneEntry_38 rfl ?_
    refine cv_LevelStore_287 (pc := 39) (s_X2_endsFileAhead hX hs hf1 (by have := hv.2.2; omega) hg1 σ.don hd) rfl dX6_doOneEntry_39 (by first | assumption | exact Fx.ok (by assumption) (by decide)) ⟨by decide, by decide, Nat.zero_le _, Nat.zero_le _⟩ (Nat.le_of_ble_eq_true rfl) (fun v h hp => ?_)
    obtain ⟨rfl, rfl⟩ := hp
    refine wp_if_eq (pc := 42) (tgt := 54) dX6_doOneEntry_42 (by decide) (fun hc => ?_) (fun hc => ?_)
    · have hnc : ¬ σ.cut := fun q => by rw [if_pos (hcut.mpr q)] at hc; exact absurd hc (by decide)
      refine wp_loc (L' := [(0, .ref 3), (1, .int (nI σ.don))]) ⟨rfl, rfl, trivial⟩ ?_
      first
      | exact s_doE_tail h1 hX hd hs (hm hlo hnc) _ _ _ (fun I' hk hr => by rw [doE_no hlo hnc]; exact ⟨rfl, n, S, R, I', A, P, sp, rfl, ab_ex.rf, hr, hkM.tr hk, by unfold dC; rw [if_neg hlo, if_neg hnc, hct0 hnc]; omega, by unfold dS; rw [if_neg hlo, if_neg hnc, hct0 hnc]; omega⟩)
      | exact s_doE_tail hRC1 hRC1.fx (k := σ.don) (by rw [esm.2.1]; exact hd) (by rw [esm.2.1]; exact hs) (by rw [emk]; decide) _ _ _ (fun I' hk hr => by
          rw [doE_cut hlo hct, hok]
          rw [emk, esm.1, esm.2.1] at hr
          exact ⟨rfl, n1, S1, R1, I', A1, P1, sp1, rfl, he1, hr, (hkM.tr hk1).tr hk, by rw [hd1, hct1 hlo hct]; exact hb1, by rw [hd2, hct1 hlo hct]; exact hb2⟩)
    · have hct : σ.cut := Classical.byContradiction fun q => by rw [if_neg (fun z => q (hcut.mp z))] at hc; exact absurd hc (by decide)
      first | refine wp_aload_n (pc := 45) dX6_doOneEntry_45 rfl ?_ | refine wp_aload_nN (pc := 45) dX6_doOneEntry_45 rfl ?_
      have hc' : cntF (σ.J (σ.don + 1) σ.mak).FS ≤ 329 := by assumption
      refine cv_LevelStore_182 (pc := 46) (s_endF h1 hP hv hc') rfl dX6_doOneEntry_46 (by first | assumption | exact Fx.ok (by assumption) (by decide)) ⟨by decide, by decide, by unfold dC; rw [if_neg hlo, if_pos hct]; exact Nat.le_refl _, by unfold dS; rw [if_neg hlo, if_pos hct]; exact Nat.le_refl _⟩ (Nat.le_of_ble_eq_true rfl) (fun v h hp => ?_)
      obtain ⟨rfl, n1, S1, R1, I1, A1, P1, sp1, rfl, he1, hRC1, hk1, hb1, hb2⟩ := hp
      have hmne : σ.mak ≠ [] := fun q => by have := hct.2.1; rw [q] at this; exact absurd this (by decide)
      rw [show (σ.J (σ.don + 1) σ.mak).mak = σ.mak from rfl, if_neg hmne] at hb1 hb2
      have hd1 : dC σ A P = eC (σ.J (σ.don + 1) σ.mak) A P := by unfold dC; rw [if_neg hlo, if_pos hct]; rfl
      have hd2 : dS σ A P = eS (σ.J (σ.don + 1) σ.mak) A P := by unfold dS; rw [if_neg hlo, if_pos hct]; rfl
      refine wp_if_ne (pc := 49) (tgt := 54) dX6_doOneEntry_49 (by decide) (fun hc => ?_) (fun hc => ?_)
      · have hok : (σ.J (σ.don + 1) σ.mak).endF.2 = true := by cases hq : (σ.J (σ.don + 1) σ.mak).endF.2 <;> rw [hq] at hc <;> first | rfl | exact absurd rfl hc
        have esm := endF_same (σ := σ.J (σ.don + 1) σ.mak)
        have emk := endF_mak hok
        refine wp_loc (L' := [(0, .ref 3), (1, .int (nI σ.don))]) ⟨rfl, rfl, trivial⟩ ?_
        first
        | exact s_doE_tail h1 hX hd hs (hm hlo hnc) _ _ _ (fun I' hk hr => by rw [doE_no hlo hnc]; exact ⟨rfl, n, S, R, I', A, P, sp, rfl, ab_ex.rf, hr, hkM.tr hk, by unfold dC; rw [if_neg hlo, if_neg hnc, hct0 hnc]; omega, by unfold dS; rw [if_neg hlo, if_neg hnc, hct0 hnc]; omega⟩)
        | exact s_doE_tail hRC1 hRC1.fx (k := σ.don) (by rw [esm.2.1]; exact hd) (by rw [esm.2.1]; exact hs) (by rw [emk]; decide) _ _ _ (fun I' hk hr => by
            rw [doE_cut hlo hct, hok]
            rw [emk, esm.1, esm.2.1] at hr
            exact ⟨rfl, n1, S1, R1, I', A1, P1, sp1, rfl, he1, hr, (hkM.tr hk1).tr hk, by rw [hd1, hct1 hlo hct]; exact hb1, by rw [hd2, hct1 hlo hct]; exact hb2⟩)
      · have hok : (σ.J (σ.don + 1) σ.mak).endF.2 = false := by cases hq : (σ.J (σ.don + 1) σ.mak).endF.2 <;> rw [hq] at hc <;> first | rfl | exact absurd hc (by decide)
        refine wp_iconst (pc := 52) (v := 0) dX6_doOneEntry_52 (by decide) ?_
        refine wp_ret (pc := 53) dX6_doOneEntry_53 rfl (by first | trivial | exact Or.inl rfl | exact Or.inr rfl | assumption) ?_
        rw [doE_cut hlo hct, hok]
        exact ⟨rfl, n1, S1, R1, I1, A1, P1, sp1, rfl, he1, hRC1, hkM.tr hk1, by rw [hd1, hct1 hlo hct]; exact hb1, by rw [hd2, hct1 hlo hct]; exact hb2⟩
  · have hz : I 32 σ.don ≠ 0 := fun q => by rw [show ab_u2 I 27 9 (nI (σ.don + 1)) 32 = I 32 from k27 32 (by decide), if_pos q] at hc; exact absurd hc (by decide)
    have hlo := hbit.t hz
    refine wp_iconst (pc := 32) (v := 1) dX6_doOneEntry_32 (by decide) ?_
    refine wp_ret (pc := 33) dX6_doOneEntry_33 rfl (by first | trivial | exact Or.inl rfl | exact Or.inr rfl | assumption) ?_
    rw [doE_lo hlo]
    exact ⟨rfl, n, S, R, _, A, P, sp, rfl, ab_ex.rf, h1, hkM, by unfold dC; rw [if_pos hlo, hctl hlo]; omega, by unfold dS; rw [if_pos hlo, hctl hlo]; omega⟩
end DE
