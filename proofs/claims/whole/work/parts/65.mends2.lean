/-! THE REFERENCE: ends, does -/
section M15
variable {σ : St} {n : Nat} {S : ab_SH} {R : ab_RR} {I : ab_II} {SL : Nat → List Nat}
abbrev enC : List Nat := [44, 45, 46, 47, 48, 49, 50, 51, 52, 57, 59, 60, 61, 62]
abbrev enK : List Nat := [16, 30, 32, 36]
theorem RMc.lg (h : RMc σ I SL) : mLog σ I := h.1
theorem RMc.sl (h : RMc σ I SL) : mSl σ I SL := h.2.2.1
theorem RMc.jb (h : RMc σ I SL) : mJob σ I SL := h.2.2.2.2
theorem m_ends_197 (hX : Fx n S R) {f : Nat} (hf : f < 330) {post : ab_Po} (hpost : post (some (.int 1)) (n, S, R, ab_u2 (ab_u2 (ab_u2 I 57 f 0) 39 32 0) 39 30 (I 39 30 + 1))) (L : List (Nat × Value)) (hL : ab_sub L [(0, .ref 39), (2, .int (nI f))]) : wp 2 44 0 0 MX7_ends 197 L [] (n, S, R, I) post := by
  refine wp_loc hL ?_
  have z57 : (S 57).2 = 330 := hX.len (by decide)
  have ef : (nI f).toInt = f := tI_n (by omega)
  have cf : (nI f).toNatClampNeg = f := nI_c (by omega)
  first | refine wp_aload_n (pc := 197) dX7_ends_197 rfl ?_ | refine wp_aload_nN (pc := 197) dX7_ends_197 rfl ?_
  refine wp_getR (pc := 198) dX7_ends_198 fl_LevelStoreModel_61 (by first | assumption | exact Fx.ok (by assumption) (by decide)) rfl (by first | assumption | exact Fx.ref (by assumption) rfl) ?_
  refine wp_iload_n (pc := 201) dX7_ends_201 rfl ?_
  refine wp_iconst (pc := 202) (v := 0) dX7_ends_202 (by decide) ?_
  refine wp_bastore (pc := 203) dX7_ends_203 (by first | assumption | exact Fx.ok (by assumption) (by decide)) (in_I (by omega) (by rw [z57]; omega)) (by first | exact Or.inl rfl | exact Or.inr rfl | assumption) ?_
  rw [cf]
  first | refine wp_aload_n (pc := 204) dX7_ends_204 rfl ?_ | refine wp_aload_nN (pc := 204) dX7_ends_204 rfl ?_
  refine wp_iconst (pc := 205) (v := 0) dX7_ends_205 (by decide) ?_
  refine wp_putI (pc := 206) dX7_ends_206 fl_LevelStoreModel_159 (by first | assumption | exact Fx.ok (by assumption) (by decide)) rfl rfl (Or.inl rfl) ?_
  first | refine wp_aload_n (pc := 209) dX7_ends_209 rfl ?_ | refine wp_aload_nN (pc := 209) dX7_ends_209 rfl ?_
  refine wp_dup (pc := 210) dX7_ends_210 rfl ?_
  refine wp_getI (pc := 211) dX7_ends_211 fl_LevelStoreModel_156 (by first | assumption | exact Fx.ok (by assumption) (by decide)) rfl ?_
  rw [ab_u2_n _ _ (Or.inr (by decide)), ab_u2_n _ _ (Or.inl (by decide))]
  refine wp_iconst (pc := 214) (v := 1) dX7_ends_214 (by decide) ?_
  refine wp_iadd (pc := 215) dX7_ends_215 ?_
  refine wp_putI (pc := 216) dX7_ends_216 fl_LevelStoreModel_156 (by first | assumption | exact Fx.ok (by assumption) (by decide)) rfl rfl (Or.inl rfl) ?_
  refine wp_iconst (pc := 219) (v := 1) dX7_ends_219 (by decide) ?_
  refine wp_ret (pc := 220) dX7_ends_220 rfl (by first | trivial | exact Or.inl rfl | exact Or.inr rfl | assumption) ?_
  exact hpost
theorem m_ends_167 (hX : Fx n S R) (x1 x2 : Int32) (post : ab_Po) (hk : ∀ L, ab_sub L [(0, .ref 39), (1, .int x1), (2, .int x2), (3, .int 0)] → wp 2 44 0 0 MX7_ends 169 L [] (n, S, R, I) post) (L : List (Nat × Value)) (hL : ab_sub L [(0, .ref 39), (1, .int x1), (2, .int x2)]) : wp 2 44 0 0 MX7_ends 167 L [] (n, S, R, I) post := by
  refine wp_loc hL ?_
  refine wp_iconst (pc := 167) (v := 0) dX7_ends_167 (by decide) ?_
  refine wp_istore_n (pc := 168) dX7_ends_168 (by decide) rfl ?_
  exact hk _ ⟨rfl, rfl, rfl, rfl, trivial⟩
theorem ends_K {J : ab_II} {f : Nat} {b c d e : Int32} (K : ab_II) (hK : K = ab_u2 (ab_u2 (ab_u2 (ab_u2 (ab_u2 (ab_u2 J 44 f 9) 45 f b) 39 16 (b + 1)) 46 f c) 47 f d) 48 f e) :
    (∀ g, K 44 g = if g = f then 9 else J 44 g) ∧ (∀ g, K 45 g = if g = f then b else J 45 g) ∧ (∀ g, K 46 g = if g = f then c else J 46 g) ∧ (∀ g, K 47 g = if g = f then d else J 47 g) ∧ (∀ g, K 48 g = if g = f then e else J 48 g) ∧ K 39 16 = b + 1 ∧ fM J K [44, 45, 46, 47, 48] [16] := by
  subst hK
  refine ⟨fun g => ?_, fun g => ?_, fun g => ?_, fun g => ?_, fun g => ?_, ?_, ?_⟩
  · simp [ab_u2]
  · simp [ab_u2]
  · simp [ab_u2]
  · simp [ab_u2]
  · simp [ab_u2]
  · simp [ab_u2]
  · exact (((((fM.ua (by simp) (by decide)).tr1 (fM.ua (by simp) (by decide))).tr1 (fM.uf (by simp))).tr1 (fM.ua (by simp) (by decide))).tr1 (fM.ua (by simp) (by decide))).tr1 (fM.ua (by simp) (by decide))
theorem m_ends_45 (hX : Fx n S R) {J : ab_II} (h : RMc σ J SL) (hj : σ.job = true) (ht : σ.tgt ≤ 3) (hv : vk σ.mak) (hcd : cdM J (enc σ.mak)) {p f : Nat} (hp : p + (enc σ.mak).length ≤ 1500) (hf : f < 330) (hfr : (J 44 f).toInt < 0) {post : ab_Po} (hpost : ∀ J' SL', fM J J' enC enK → RMc ((σ.F (va_up σ.FS 5 (σ.FS 5 ++ [(nI σ.nf, nI p, nI (enc σ.mak).length, σ.mak)])) (lay21 σ.B p (enc σ.mak)) (σ.nf + 1)).J σ.don []) J' SL' → post (some (.int 1)) (n, S, R, J')) (L : List (Nat × Value)) (hL : ab_sub L [(0, .ref 39), (1, .int (nI p)), (2, .int (nI f))]) : wp 2 44 0 0 MX7_ends 45 L [] (n, S, R, J) post := by
  refine wp_loc hL ?_
  have z44 : (S 44).2 = 330 := hX.len (by decide)
  have z45 : (S 45).2 = 330 := hX.len (by decide)
  have z46 : (S 46).2 = 330 := hX.len (by decide)
  have z47 : (S 47).2 = 330 := hX.len (by decide)
  have z48 : (S 48).2 = 330 := hX.len (by decide)
  have ef : (nI f).toInt = f := tI_n (by omega)
  have cf : (nI f).toNatClampNeg = f := nI_c (by omega)
  have h24 := hv.2.2
  have hm := h.jb.2.2 hj
  have e32 : J 39 32 = nI σ.mak.length := hm.2.2.2.2.2.1
  first | refine wp_aload_n (pc := 45) dX7_ends_45 rfl ?_ | refine wp_aload_nN (pc := 45) dX7_ends_45 rfl ?_
  refine wp_getR (pc := 46) dX7_ends_46 fl_LevelStoreModel_22 (by first | assumption | exact Fx.ok (by assumption) (by decide)) rfl (by first | assumption | exact Fx.ref (by assumption) rfl) ?_
  refine wp_iload_n (pc := 49) dX7_ends_49 rfl ?_
  refine wp_bipush (pc := 50) (v := 9) dX7_ends_50 (by decide) ?_
  refine wp_iastore (pc := 52) dX7_ends_52 (by first | assumption | exact Fx.ok (by assumption) (by decide)) (in_I (by omega) (by rw [z44]; omega)) ?_
  rw [cf]
  first | refine wp_aload_n (pc := 53) dX7_ends_53 rfl ?_ | refine wp_aload_nN (pc := 53) dX7_ends_53 rfl ?_
  refine wp_getR (pc := 54) dX7_ends_54 fl_LevelStoreModel_25 (by first | assumption | exact Fx.ok (by assumption) (by decide)) rfl (by first | assumption | exact Fx.ref (by assumption) rfl) ?_
  refine wp_iload_n (pc := 57) dX7_ends_57 rfl ?_
  first | refine wp_aload_n (pc := 58) dX7_ends_58 rfl ?_ | refine wp_aload_nN (pc := 58) dX7_ends_58 rfl ?_
  refine wp_getI (pc := 59) dX7_ends_59 fl_LevelStoreModel_201 (by first | assumption | exact Fx.ok (by assumption) (by decide)) rfl ?_
  rw [ab_u2_r _ _ (by decide)]
  refine wp_iastore (pc := 62) dX7_ends_62 (by first | assumption | exact Fx.ok (by assumption) (by decide)) (in_I (by omega) (by rw [z45]; omega)) ?_
  rw [cf]
  first | refine wp_aload_n (pc := 63) dX7_ends_63 rfl ?_ | refine wp_aload_nN (pc := 63) dX7_ends_63 rfl ?_
  refine wp_dup (pc := 64) dX7_ends_64 rfl ?_
  refine wp_getI (pc := 65) dX7_ends_65 fl_LevelStoreModel_201 (by first | assumption | exact Fx.ok (by assumption) (by decide)) rfl ?_
  rw [ab_u2_n _ _ (Or.inl (by decide)), ab_u2_n _ _ (Or.inl (by decide))]
  refine wp_iconst (pc := 68) (v := 1) dX7_ends_68 (by decide) ?_
  refine wp_iadd (pc := 69) dX7_ends_69 ?_
  refine wp_putI (pc := 70) dX7_ends_70 fl_LevelStoreModel_201 (by first | assumption | exact Fx.ok (by assumption) (by decide)) rfl rfl (Or.inl rfl) ?_
  first | refine wp_aload_n (pc := 73) dX7_ends_73 rfl ?_ | refine wp_aload_nN (pc := 73) dX7_ends_73 rfl ?_
  refine wp_getR (pc := 74) dX7_ends_74 fl_LevelStoreModel_28 (by first | assumption | exact Fx.ok (by assumption) (by decide)) rfl (by first | assumption | exact Fx.ref (by assumption) rfl) ?_
  refine wp_iload_n (pc := 77) dX7_ends_77 rfl ?_
  refine wp_iload_n (pc := 78) dX7_ends_78 rfl ?_
  refine wp_iastore (pc := 79) dX7_ends_79 (by first | assumption | exact Fx.ok (by assumption) (by decide)) (in_I (by omega) (by rw [z46]; omega)) ?_
  rw [cf]
  first | refine wp_aload_n (pc := 80) dX7_ends_80 rfl ?_ | refine wp_aload_nN (pc := 80) dX7_ends_80 rfl ?_
  refine wp_getR (pc := 81) dX7_ends_81 fl_LevelStoreModel_31 (by first | assumption | exact Fx.ok (by assumption) (by decide)) rfl (by first | assumption | exact Fx.ref (by assumption) rfl) ?_
  refine wp_iload_n (pc := 84) dX7_ends_84 rfl ?_
  first | refine wp_aload_n (pc := 85) dX7_ends_85 rfl ?_ | refine wp_aload_nN (pc := 85) dX7_ends_85 rfl ?_
  refine wp_getI (pc := 86) dX7_ends_86 fl_LevelStoreModel_189 (by first | assumption | exact Fx.ok (by assumption) (by decide)) rfl ?_
  rw [ab_u2_n _ _ (Or.inl (by decide)), ab_u2_n _ _ (Or.inr (by decide)), ab_u2_n _ _ (Or.inl (by decide)), ab_u2_n _ _ (Or.inl (by decide)), hcd.1]
  refine wp_iastore (pc := 89) dX7_ends_89 (by first | assumption | exact Fx.ok (by assumption) (by decide)) (in_I (by omega) (by rw [z47]; omega)) ?_
  rw [cf]
  first | refine wp_aload_n (pc := 90) dX7_ends_90 rfl ?_ | refine wp_aload_nN (pc := 90) dX7_ends_90 rfl ?_
  refine wp_getR (pc := 91) dX7_ends_91 fl_LevelStoreModel_34 (by first | assumption | exact Fx.ok (by assumption) (by decide)) rfl (by first | assumption | exact Fx.ref (by assumption) rfl) ?_
  refine wp_iload_n (pc := 94) dX7_ends_94 rfl ?_
  first | refine wp_aload_n (pc := 95) dX7_ends_95 rfl ?_ | refine wp_aload_nN (pc := 95) dX7_ends_95 rfl ?_
  refine wp_getI (pc := 96) dX7_ends_96 fl_LevelStoreModel_159 (by first | assumption | exact Fx.ok (by assumption) (by decide)) rfl ?_
  rw [ab_u2_n _ _ (Or.inl (by decide)), ab_u2_n _ _ (Or.inl (by decide)), ab_u2_n _ _ (Or.inr (by decide)), ab_u2_n _ _ (Or.inl (by decide)), ab_u2_n _ _ (Or.inl (by decide)), e32]
  refine wp_iastore (pc := 99) dX7_ends_99 (by first | assumption | exact Fx.ok (by assumption) (by decide)) (in_I (by omega) (by rw [z48]; omega)) ?_
  rw [cf]
  refine wp_iconst (pc := 100) (v := 0) dX7_ends_100 (by decide) ?_
  refine wp_istore_n (pc := 101) dX7_ends_101 (by decide) rfl ?_
  obtain ⟨k44, k45, k46, k47, k48, k16, kf⟩ := ends_K (J := J) (f := f) (b := J 39 16) (c := nI p) (d := nI (enc σ.mak).length) (e := nI σ.mak.length) _ rfl
  generalize ab_u2 (ab_u2 (ab_u2 (ab_u2 (ab_u2 (ab_u2 J 44 f 9) 45 f (J 39 16)) 39 16 (J 39 16 + 1)) 46 f (nI p)) 47 f (nI (enc σ.mak).length)) 48 f (nI σ.mak.length) = K at *
  have hcdK : cdM K (enc σ.mak) := ⟨by rw [kf.2 36 (by simp)]; exact hcd.1, fun k b q => by rw [kf.1 62 (by simp) (by decide)]; exact hcd.2 k b q⟩
  refine m_ends_l1 hX (nI p) hf (I0 := K) (es := σ.mak) h24 (by rw [kf.2 32 (by simp)]; exact e32) (hm.2.2.2.2.2.2.1.keep (kf.1 _ (by simp) (by decide)) (kf.1 _ (by simp) (by decide)) (kf.1 _ (by simp) (by decide))) _ (fun J2 hf2 hla L2 hL2 => m_ends_167 hX _ _ _ (fun L3 hL3 => m_ends_l2 hX (f := f) (p := p) (I0 := J2) (cl := enc σ.mak) hp (by have := enc_len hv; omega) ⟨by rw [hf2.2 36 (by simp)]; exact hcdK.1, fun k b q => by rw [hf2.1 62 (by simp) (by decide)]; exact hcdK.2 k b q⟩ _ (fun J3 hf3 h52 L4 hL4 => m_ends_197 hX hf ?_ L4 hL4) (enc σ.mak).length 0 _ J2 L3 (by omega) rfl fM.rf ?_ hL3) L2 hL2) σ.mak.length 0 _ K _ (by omega) rfl fM.rf laid.rf ⟨rfl, rfl, rfl, rfl, trivial⟩
  · have q30 : J3 39 30 = J 39 30 := by rw [hf3.2 30 (by simp), hf2.2 30 (by simp), kf.2 30 (by simp)]
    rw [q30]
    have ha : ∀ j, j ≠ 39 → j ≠ 57 → ab_u2 (ab_u2 (ab_u2 J3 57 f 0) 39 32 0) 39 30 (J 39 30 + 1) j = J3 j := fun j h1 h2 => by rw [ab_u2_r _ _ h1, ab_u2_r _ _ h1, ab_u2_r _ _ h2]
    refine hpost _ (va_up SL 5 (SL 5 ++ [f])) ?_ (h.ends hj ht hf hfr h24 (fun j q => ?_) (fun k q1 q2 q3 q4 => ?_) (fun g => ?_) (fun g => ?_) (fun g => ?_) (fun g => ?_) (fun g => ?_) ?_ ?_ (fun g => ?_) ?_ ?_ ?_)
    · refine (kf.tr (C'' := enC) (K'' := enK) hf2 (by simp) (by simp) (by simp) (by simp)).tr1 ((hf3.tr (C'' := enC) (K'' := enK) (((fM.ua (C := [57]) (K := [30, 32]) (by simp) (by decide)).tr1 (fM.uf (by simp))).tr1 (fM.uf (by simp))) (by simp) (by simp) (by simp) (by simp)))
    · rw [ha j (by omega) (by omega), hf3.1 j (by simp; omega) (by omega), hf2.1 j (by simp; omega) (by omega), kf.1 j (by simp; omega) (by omega)]
    · rw [ab_u2_n _ _ (Or.inr q2), ab_u2_n _ _ (Or.inr q3), ab_u2_n _ _ (Or.inl (by decide)), hf3.2 k (by simp), hf2.2 k (by simp), kf.2 k (by simp [q1])]
    · rw [ha _ (by decide) (by decide), hf3.1 _ (by simp) (by decide), hf2.1 _ (by simp) (by decide)]; exact k44 g
    · rw [ha _ (by decide) (by decide), hf3.1 _ (by simp) (by decide), hf2.1 _ (by simp) (by decide)]; exact k45 g
    · rw [ha _ (by decide) (by decide), hf3.1 _ (by simp) (by decide), hf2.1 _ (by simp) (by decide)]; exact k46 g
    · rw [ha _ (by decide) (by decide), hf3.1 _ (by simp) (by decide), hf2.1 _ (by simp) (by decide)]; exact k47 g
    · rw [ha _ (by decide) (by decide), hf3.1 _ (by simp) (by decide), hf2.1 _ (by simp) (by decide)]; exact k48 g
    · unfold laid
      rw [ha 49 (by decide) (by decide), ha 50 (by decide) (by decide), ha 51 (by decide) (by decide), hf3.1 49 (by simp) (by decide), hf3.1 50 (by simp) (by decide), hf3.1 51 (by simp) (by decide)]
      refine ⟨hla.1, fun i q => ?_⟩
      rw [(hla.2 i q).1, (hla.2 i q).2.1, (hla.2 i q).2.2, kf.1 49 (by simp) (by decide), kf.1 50 (by simp) (by decide), kf.1 51 (by simp) (by decide)]
      exact ⟨rfl, rfl, rfl⟩
    · rw [ha _ (by decide) (by decide), h52, hf2.1 52 (by simp) (by decide), kf.1 52 (by simp) (by decide)]
    · rw [ab_u2_n _ _ (Or.inl (by decide)), ab_u2_n _ _ (Or.inl (by decide))]
      by_cases q : g = f
      · rw [q, ab_u2_s, if_pos rfl]
      · rw [ab_u2_n _ _ (Or.inr q), if_neg q, hf3.1 57 (by simp) (by decide), hf2.1 57 (by simp) (by decide), kf.1 57 (by simp) (by decide)]
    · rw [ab_u2_n _ _ (Or.inr (by decide)), ab_u2_n _ _ (Or.inr (by decide)), ab_u2_n _ _ (Or.inl (by decide)), hf3.2 16 (by simp), hf2.2 16 (by simp)]; exact k16
    · rw [ab_u2_s]
    · rw [ab_u2_n _ _ (Or.inr (by decide)), ab_u2_s]
  · funext j
    rw [lay21, if_neg (by simp)]
theorem m_ends (hX : Fx n S R) (h : RMc σ I SL) (hj : σ.job = true) (ht : σ.tgt ≤ 3) (hP : PLC σ.FS) (hv : vk σ.mak) (hc0 : cntF σ.FS ≤ 329) : wp 2 44 0 0 MX7_ends 0 [(0, .ref 39)] [] (n, S, R, I) (fun v hh => ∃ J SL', hh = (n, S, R, J) ∧ fM I J enC enK ∧ ((v = some (.int 1) ∧ σ.endF.2 = true ∧ RMc σ.endF.1 J SL') ∨ (v = some (.int 0) ∧ σ.endF.2 = false ∧ RMc σ J SL'))) := by
  have h24 := hv.2.2
  have hm := h.jb.2.2 hj
  have e32 : I 39 32 = nI σ.mak.length := hm.2.2.2.2.2.1
  have hlp := enc_pos σ.mak
  have hle := enc_len hv
  by_cases hne : σ.mak = []
  · skip
    first | refine wp_aload_n (pc := 0) dX7_ends_0 rfl ?_ | refine wp_aload_nN (pc := 0) dX7_ends_0 rfl ?_
    refine wp_getI (pc := 1) dX7_ends_1 fl_LevelStoreModel_159 (by first | assumption | exact Fx.ok (by assumption) (by decide)) rfl ?_
    rw [e32, hne]
    refine wp_if_ne (pc := 4) (tgt := 9) dX7_ends_4 (by decide) (fun hc => ?_) (fun hc => ?_)
    · exact absurd rfl hc
    · skip
      refine wp_iconst (pc := 7) (v := 1) dX7_ends_7 (by decide) ?_
      refine wp_ret (pc := 8) dX7_ends_8 rfl (by first | trivial | exact Or.inl rfl | exact Or.inr rfl | assumption) ?_
      rw [endF_nil hne]; exact ⟨I, SL, rfl, fM.rf, Or.inl ⟨rfl, rfl, h⟩⟩
  · have hpos := List.length_pos_iff.mpr hne
    have k21 : ∀ (J1 : ab_II) (x : Int32), fM I J1 [62] [36] → RMc σ J1 SL → cdM J1 (enc σ.mak) → ((∃ p, x = nI p ∧ room σ.FS (enc σ.mak).length = some p) ∨ (x = -1 ∧ room σ.FS (enc σ.mak).length = none)) → ∀ L, ab_sub L [(0, .ref 39)] → wp 2 44 0 0 MX7_ends 21 L [.int x] (n, S, R, J1) (fun v hh => ∃ J SL', hh = (n, S, R, J) ∧ fM I J enC enK ∧ ((v = some (.int 1) ∧ σ.endF.2 = true ∧ RMc σ.endF.1 J SL') ∨ (v = some (.int 0) ∧ σ.endF.2 = false ∧ RMc σ J SL'))) := by
      intro J1 x hf1 h1 hcd1 hx L hL
      refine wp_loc hL ?_
      rcases hx with ⟨p, rfl, hr⟩ | ⟨rfl, hr⟩
      · have hfit := room_is σ.FS (enc σ.mak).length
        rw [hr] at hfit
        have hpl : p + (enc σ.mak).length ≤ 1500 := by
          rcases hfit with ⟨p', e, q, -⟩ | ⟨e, -⟩
          · cases e; exact q.1
          · cases e
        obtain ⟨f0, hf0, hfr0⟩ := free_ex h1.sl hc0
        have ep : (nI p).toInt = p := tI_n (by omega)
        refine wp_istore_n (pc := 21) dX7_ends_21 (by decide) rfl ?_
        refine wp_iload_n (pc := 22) dX7_ends_22 rfl ?_
        refine wp_if_ge (pc := 23) (tgt := 28) dX7_ends_23 (by decide) (fun hc => ?_) (fun hc => ?_)
        · skip
          refine wp_iconst (pc := 28) (v := 0) dX7_ends_28 (by decide) ?_
          refine wp_istore_n (pc := 29) dX7_ends_29 (by decide) rfl ?_
          exact m_ends_free hX (nI p) hf0 hfr0 _ (fun f hf hfr L hL => m_ends_45 hX h1 hj ht hv hcd1 hpl hf hfr (fun J2 SL2 hf2 hR2 => ⟨J2, SL2, rfl, hf1.tr hf2 (by simp) (fun _ q => q) (by simp) (fun _ q => q), Or.inl ⟨rfl, by rw [endF_some hne hr], by rw [endF_some hne hr]; exact hR2⟩⟩) L hL) f0 0 _ _ (by omega) rfl ⟨rfl, rfl, rfl, trivial⟩
        · omega
      · skip
        refine wp_istore_n (pc := 21) dX7_ends_21 (by decide) rfl ?_
        refine wp_iload_n (pc := 22) dX7_ends_22 rfl ?_
        refine wp_if_ge (pc := 23) (tgt := 28) dX7_ends_23 (by decide) (fun hc => ?_) (fun hc => ?_)
        · exact absurd hc (by decide)
        · skip
          refine wp_iconst (pc := 26) (v := 0) dX7_ends_26 (by decide) ?_
          refine wp_ret (pc := 27) dX7_ends_27 rfl (by first | trivial | exact Or.inl rfl | exact Or.inr rfl | assumption) ?_
          exact ⟨J1, SL, rfl, hf1.tr (C'' := enC) (K'' := enK) (fM.rf (C := []) (K := [])) (by simp) (by simp) (by simp) (by simp), Or.inr ⟨rfl, by rw [endF_none hne hr], h1⟩⟩
    first | refine wp_aload_n (pc := 0) dX7_ends_0 rfl ?_ | refine wp_aload_nN (pc := 0) dX7_ends_0 rfl ?_
    refine wp_getI (pc := 1) dX7_ends_1 fl_LevelStoreModel_159 (by first | assumption | exact Fx.ok (by assumption) (by decide)) rfl ?_
    rw [e32]
    refine wp_if_ne (pc := 4) (tgt := 9) dX7_ends_4 (by decide) (fun hc => ?_) (fun hc => ?_)
    · skip
      first | refine wp_aload_n (pc := 9) dX7_ends_9 rfl ?_ | refine wp_aload_nN (pc := 9) dX7_ends_9 rfl ?_
      refine cv_LevelStoreModel_195 (pc := 10) (m_encode hX e32 hm.2.2.2.2.2.2.1 hv) rfl dX7_ends_10 (by first | assumption | exact Fx.ok (by assumption) (by decide)) ⟨by decide, by decide, Nat.zero_le _, Nat.zero_le _⟩ (Nat.le_of_ble_eq_true rfl) (fun v h hp => ?_)
      obtain ⟨rfl, J1, rfl, hf1, hcd1⟩ := hp
      have h1 : RMc σ J1 SL := h.keep hf1 (fun j q => by simp at q; omega) (fun k q => by simp at q; omega)
      first | refine wp_aload_n (pc := 13) dX7_ends_13 rfl ?_ | refine wp_aload_nN (pc := 13) dX7_ends_13 rfl ?_
      first | refine wp_aload_n (pc := 14) dX7_ends_14 rfl ?_ | refine wp_aload_nN (pc := 14) dX7_ends_14 rfl ?_
      refine wp_getI (pc := 15) dX7_ends_15 fl_LevelStoreModel_189 (by first | assumption | exact Fx.ok (by assumption) (by decide)) rfl ?_
      rw [hcd1.1]
      refine cv_LevelStoreModel_198 (pc := 18) (m_room hX h1.sl hP (by omega) (by omega)) rfl dX7_ends_18 (by first | assumption | exact Fx.ok (by assumption) (by decide)) ⟨by decide, by decide, Nat.zero_le _, Nat.zero_le _⟩ (Nat.le_of_ble_eq_true rfl) (fun v h hp => ?_)
      obtain ⟨rfl, x, rfl, hx⟩ := hp
      exact k21 J1 x hf1 h1 hcd1 hx _ ⟨rfl, trivial⟩
    · rw [tI_n (by omega)] at hc; omega
end M15
