/-! THE REFERENCE: check -/
section M20
variable {σ : St} {n : Nat} {S : ab_SH} {R : ab_RR} {I : ab_II} {SL : Nat → List Nat}
theorem m_ca_l3 (hX : Fx n S R) {f : Nat} (hf : f < 330) {p : Nat} {cl : List Nat} (hp : p + cl.length ≤ 1500) (h6 : cl.length ≤ 600) (hcd : cdM I cl) (h46 : I 46 f = nI p) (hB : ∀ (j b : Nat), cl[j]? = some b → I 52 (p + j) = nI b) (post : ab_Po) (hpost : ∀ L, ab_sub L [(0, .ref 39), (1, .int (nI f)), (2, .int 1)] → wp 2 44 0 0 MX7_codesAs 190 L [] (n, S, R, I) post) :
    ∀ (d t : Nat) (y : Int32) (L : List (Nat × Value)), cl.length = t + d → y = nI t → ab_sub L [(0, .ref 39), (1, .int (nI f)), (2, .int 1), (3, .int y)] → wp 2 44 0 0 MX7_codesAs 144 L [] (n, S, R, I) post := by
  have z46 : (S 46).2 = 330 := hX.len (by decide)
  have z52 : (S 52).2 = 1500 := hX.len (by decide)
  have z62 : (S 62).2 = 600 := hX.len (by decide)
  have ef : (nI f).toInt = f := tI_n (by omega)
  have cf : (nI f).toNatClampNeg = f := nI_c (by omega)
  have e36 : (I 39 36).toInt = cl.length := by rw [hcd.1, tI_n (by omega)]
  intro d
  induction d with
  | zero =>
    intro t y L ht hy hL0
    refine wp_loc hL0 ?_
    have ey : y.toInt = t := by rw [hy, tI_n (by omega)]
    refine wp_iload_n (pc := 144) dX7_codesAs_144 rfl ?_
    first | refine wp_aload_n (pc := 145) dX7_codesAs_145 rfl ?_ | refine wp_aload_nN (pc := 145) dX7_codesAs_145 rfl ?_
    refine wp_getI (pc := 146) dX7_codesAs_146 fl_LevelStoreModel_189 (by first | assumption | exact Fx.ok (by assumption) (by decide)) rfl ?_
    refine wp_icmp_ge (pc := 149) (tgt := 190) dX7_codesAs_149 (by decide) (fun hc => ?_) (fun hc => ?_)
    · skip
      exact hpost _ ⟨rfl, rfl, rfl, trivial⟩
    · omega
  | succ d ih =>
    intro t y L ht hy hL0
    refine wp_loc hL0 ?_
    have ey : y.toInt = t := by rw [hy, tI_n (by omega)]
    have cy : y.toNatClampNeg = t := by rw [tI_c]; omega
    obtain ⟨b, eg⟩ : ∃ b, cl[t]? = some b := ⟨_, List.getElem?_eq_getElem (by omega)⟩
    have ei : nI p + y = nI (p + t) := by rw [hy]; exact nI_add _ _
    have ei2 : (nI (p + t)).toInt = ((p + t : Nat) : Int) := tI_n (by omega)
    have ci : (nI (p + t)).toNatClampNeg = p + t := nI_c (by omega)
    refine wp_iload_n (pc := 144) dX7_codesAs_144 rfl ?_
    first | refine wp_aload_n (pc := 145) dX7_codesAs_145 rfl ?_ | refine wp_aload_nN (pc := 145) dX7_codesAs_145 rfl ?_
    refine wp_getI (pc := 146) dX7_codesAs_146 fl_LevelStoreModel_189 (by first | assumption | exact Fx.ok (by assumption) (by decide)) rfl ?_
    refine wp_icmp_ge (pc := 149) (tgt := 190) dX7_codesAs_149 (by decide) (fun hc => ?_) (fun hc => ?_)
    · omega
    · skip
      refine wp_iload_n (pc := 152) dX7_codesAs_152 rfl ?_
      refine wp_if_eq (pc := 153) (tgt := 190) dX7_codesAs_153 (by decide) (fun hc => ?_) (fun hc => ?_)
      · exact absurd hc (by decide)
      · skip
        first | refine wp_aload_n (pc := 156) dX7_codesAs_156 rfl ?_ | refine wp_aload_nN (pc := 156) dX7_codesAs_156 rfl ?_
        refine wp_getR (pc := 157) dX7_codesAs_157 fl_LevelStoreModel_46 (by first | assumption | exact Fx.ok (by assumption) (by decide)) rfl (by first | assumption | exact Fx.ref (by assumption) rfl) ?_
        first | refine wp_aload_n (pc := 160) dX7_codesAs_160 rfl ?_ | refine wp_aload_nN (pc := 160) dX7_codesAs_160 rfl ?_
        refine wp_getR (pc := 161) dX7_codesAs_161 fl_LevelStoreModel_28 (by first | assumption | exact Fx.ok (by assumption) (by decide)) rfl (by first | assumption | exact Fx.ref (by assumption) rfl) ?_
        refine wp_iload_n (pc := 164) dX7_codesAs_164 rfl ?_
        refine wp_iaload (pc := 165) dX7_codesAs_165 (by first | assumption | exact Fx.ok (by assumption) (by decide)) (in_I (by omega) (by rw [z46]; omega)) ?_
        rw [cf, h46]
        refine wp_iload_n (pc := 166) dX7_codesAs_166 rfl ?_
        refine wp_iadd (pc := 167) dX7_codesAs_167 ?_
        rw [ei]
        refine wp_iaload (pc := 168) dX7_codesAs_168 (by first | assumption | exact Fx.ok (by assumption) (by decide)) (in_I (by omega) (by rw [z52]; omega)) ?_
        rw [ci, hB t b eg]
        first | refine wp_aload_n (pc := 169) dX7_codesAs_169 rfl ?_ | refine wp_aload_nN (pc := 169) dX7_codesAs_169 rfl ?_
        refine wp_getR (pc := 170) dX7_codesAs_170 fl_LevelStoreModel_77 (by first | assumption | exact Fx.ok (by assumption) (by decide)) rfl (by first | assumption | exact Fx.ref (by assumption) rfl) ?_
        refine wp_iload_n (pc := 173) dX7_codesAs_173 rfl ?_
        refine wp_iaload (pc := 174) dX7_codesAs_174 (by first | assumption | exact Fx.ok (by assumption) (by decide)) (in_I (by omega) (by rw [z62]; omega)) ?_
        rw [cy, hcd.2 t b eg]
        refine wp_icmp_ne (pc := 175) (tgt := 182) dX7_codesAs_175 (by decide) (fun hc => ?_) (fun hc => ?_)
        · exact absurd rfl hc
        · skip
          refine wp_iconst (pc := 178) (v := 1) dX7_codesAs_178 (by decide) ?_
          refine wp_goto (pc := 179) (tgt := 183) dX7_codesAs_179 (by decide) ?_
          refine wp_istore_n (pc := 183) dX7_codesAs_183 (by decide) rfl ?_
          refine wp_iinc (pc := 184) dX7_codesAs_184 rfl (by decide) rfl ?_
          refine wp_goto (pc := 187) (tgt := 144) dX7_codesAs_187 (by decide) ?_
          exact ih (t + 1) _ _ (by omega) (by rw [hy]; exact nI_i1 t) ⟨rfl, rfl, rfl, rfl, trivial⟩
theorem m_ca_190 (hX : Fx n S R) (f x2 : Int32) (post : ab_Po) (hk : ∀ L, ab_sub L [(0, .ref 39), (1, .int f), (2, .int x2), (3, .int 0)] → wp 2 44 0 0 MX7_codesAs 192 L [] (n, S, R, I) post) (L : List (Nat × Value)) (hL : ab_sub L [(0, .ref 39), (1, .int f), (2, .int x2)]) : wp 2 44 0 0 MX7_codesAs 190 L [] (n, S, R, I) post := by
  refine wp_loc hL ?_
  refine wp_iconst (pc := 190) (v := 0) dX7_codesAs_190 (by decide) ?_
  refine wp_istore_n (pc := 191) dX7_codesAs_191 (by decide) rfl ?_
  exact hk _ ⟨rfl, rfl, rfl, rfl, trivial⟩
theorem m_ca_50 (hX : Fx n S R) (f : Int32) (post : ab_Po) (hk : ∀ L, ab_sub L [(0, .ref 39), (1, .int f), (2, .int 0)] → wp 2 44 0 0 MX7_codesAs 52 L [] (n, S, R, I) post) (L : List (Nat × Value)) (hL : ab_sub L [(0, .ref 39), (1, .int f)]) : wp 2 44 0 0 MX7_codesAs 50 L [] (n, S, R, I) post := by
  refine wp_loc hL ?_
  refine wp_iconst (pc := 50) (v := 0) dX7_codesAs_50 (by decide) ?_
  refine wp_istore_n (pc := 51) dX7_codesAs_51 (by decide) rfl ?_
  exact hk _ ⟨rfl, rfl, rfl, trivial⟩
theorem m_ca_119 (hX : Fx n S R) {f : Nat} (hf : f < 330) {F : FA} (hs : slOK I f F) (hv : vk F.es) (h32 : I 39 32 = nI F.es.length) (ha : arr3 I 59 60 61 0 F.es) (hpl : F.2.1 = nI (pl F)) (hln : F.2.2.1 = nI (enc F.es).length) (hle : pl F + (enc F.es).length ≤ 1500) (hB : ∀ (j b : Nat), (enc F.es)[j]? = some b → I 52 (pl F + j) = nI b) (post : ab_Po) (hpost : ∀ J, fM I J [62] [36] → ∀ L, ab_sub L [(0, .ref 39), (1, .int (nI f)), (2, .int 1)] → wp 2 44 0 0 MX7_codesAs 190 L [] (n, S, R, J) post) (L : List (Nat × Value)) (hL : ab_sub L [(0, .ref 39), (1, .int (nI f))]) : wp 2 44 0 0 MX7_codesAs 119 L [] (n, S, R, I) post := by
  refine wp_loc hL ?_
  have z47 : (S 47).2 = 330 := hX.len (by decide)
  have ef : (nI f).toInt = f := tI_n (by omega)
  have cf : (nI f).toNatClampNeg = f := nI_c (by omega)
  have hel := enc_len hv
  first | refine wp_aload_n (pc := 119) dX7_codesAs_119 rfl ?_ | refine wp_aload_nN (pc := 119) dX7_codesAs_119 rfl ?_
  refine cv_LevelStoreModel_195 (pc := 120) (m_encode hX h32 ha hv) rfl dX7_codesAs_120 (by first | assumption | exact Fx.ok (by assumption) (by decide)) ⟨by decide, by decide, Nat.zero_le _, Nat.zero_le _⟩ (Nat.le_of_ble_eq_true rfl) (fun v h hp => ?_)
  obtain ⟨rfl, J, rfl, hf2, hcd⟩ := hp
  first | refine wp_aload_n (pc := 123) dX7_codesAs_123 rfl ?_ | refine wp_aload_nN (pc := 123) dX7_codesAs_123 rfl ?_
  refine wp_getI (pc := 124) dX7_codesAs_124 fl_LevelStoreModel_189 (by first | assumption | exact Fx.ok (by assumption) (by decide)) rfl ?_
  first | refine wp_aload_n (pc := 127) dX7_codesAs_127 rfl ?_ | refine wp_aload_nN (pc := 127) dX7_codesAs_127 rfl ?_
  refine wp_getR (pc := 128) dX7_codesAs_128 fl_LevelStoreModel_31 (by first | assumption | exact Fx.ok (by assumption) (by decide)) rfl (by first | assumption | exact Fx.ref (by assumption) rfl) ?_
  refine wp_iload_n (pc := 131) dX7_codesAs_131 rfl ?_
  refine wp_iaload (pc := 132) dX7_codesAs_132 (by first | assumption | exact Fx.ok (by assumption) (by decide)) (in_I (by omega) (by rw [z47]; omega)) ?_
  rw [cf, hcd.1, hf2.1 47 (by simp) (by decide), hs.2.2.1, hln]
  refine wp_icmp_ne (pc := 133) (tgt := 140) dX7_codesAs_133 (by decide) (fun hc => ?_) (fun hc => ?_)
  · exact absurd rfl hc
  · skip
    refine wp_iconst (pc := 136) (v := 1) dX7_codesAs_136 (by decide) ?_
    refine wp_goto (pc := 137) (tgt := 141) dX7_codesAs_137 (by decide) ?_
    refine wp_istore_n (pc := 141) dX7_codesAs_141 (by decide) rfl ?_
    refine wp_iconst (pc := 142) (v := 0) dX7_codesAs_142 (by decide) ?_
    refine wp_istore_n (pc := 143) dX7_codesAs_143 (by decide) rfl ?_
    exact m_ca_l3 hX hf (p := pl F) (cl := enc F.es) hle (by omega) hcd (by rw [hf2.1 46 (by simp) (by decide), hs.2.1, hpl]) (fun j b q => by rw [hf2.1 52 (by simp) (by decide)]; exact hB j b q) _ (fun L2 hL2 => hpost J hf2 L2 hL2) (enc F.es).length 0 _ _ (by omega) rfl ⟨rfl, rfl, rfl, rfl, trivial⟩
theorem m_codesAs (hX : Fx n S R) {f : Nat} (hf : f < 330) {F : FA} (hs : slOK I f F) (hv : vk F.es) (h32 : I 39 32 = nI F.es.length) (hpl : F.2.1 = nI (pl F)) (hln : F.2.2.1 = nI (enc F.es).length) (hle : pl F + (enc F.es).length ≤ 1500) (hB : ∀ (j b : Nat), (enc F.es)[j]? = some b → I 52 (pl F + j) = nI b) : wp 2 44 0 0 MX7_codesAs 0 [(0, .ref 39), (1, .int (nI f))] [] (n, S, R, I) (fun v hh => v = some (.int 1) ∧ ∃ J, hh = (n, S, R, J) ∧ fM I J [59, 60, 61, 62, 63, 64, 65] [36] ∧ ∀ i, i < 40 → J 59 i = I 59 i ∧ J 60 i = I 60 i ∧ J 61 i = I 61 i) := by
  refine wp_iconst (pc := 0) (v := 0) dX7_codesAs_0 (by decide) ?_
  refine wp_istore_n (pc := 1) dX7_codesAs_1 (by decide) rfl ?_
  refine m_ca_l1 hX _ (I0 := I) _ (fun J1 hf1 g1 L1 hL1 => m_ca_50 hX _ _ (fun L2 hL2 => m_ca_l2 hX hf (I0 := J1) (hs.keep (fun j q1 q2 => hf1.1 j (by simp; omega) (by omega))) _ (fun J3 hf3 ha3 L3 hL3 => m_ca_119 hX hf (hs.keep (fun j q1 q2 => (hf3.1 j (by simp; omega) (by omega)).trans (hf1.1 j (by simp; omega) (by omega)))) hv (by rw [hf3.2 32 (by simp), hf1.2 32 (by simp)]; exact h32) ha3 hpl hln hle (fun j b q => by rw [hf3.1 52 (by simp) (by decide), hf1.1 52 (by simp) (by decide)]; exact hB j b q) _ (fun J4 hf4 L4 hL4 => m_ca_190 hX _ _ _ (fun L5 hL5 => m_ca_l4 hX _ 1 (Or.inr rfl) (I0 := J4) _ (fun J5 hf5 g5 => ⟨rfl, J5, rfl, ?_, fun i q => ?_⟩) 40 0 _ J4 L5 rfl rfl fM.rf (fun i q => by omega) hL5) L4 hL4) L3 hL3) F.es.length 0 _ J1 L2 (by omega) rfl fM.rf (fun j e q => by simp at q) hL2) L1 hL1) 40 0 _ I _ rfl rfl fM.rf (fun i q => by omega) ⟨rfl, rfl, rfl, trivial⟩
  · exact ((hf1.tr (C'' := [59, 60, 61, 62, 63, 64, 65]) (K'' := [36]) hf3 (by simp) (by simp) (by simp) (by simp)).tr hf4 (fun _ q => q) (by simp) (fun _ q => q) (by simp)).tr hf5 (fun _ q => q) (by simp) (fun _ q => q) (by simp)
  · rw [(g5 i q).1, (g5 i q).2.1, (g5 i q).2.2, hf4.1 63 (by simp) (by decide), hf4.1 64 (by simp) (by decide), hf4.1 65 (by simp) (by decide), hf3.1 63 (by simp) (by decide), hf3.1 64 (by simp) (by decide), hf3.1 65 (by simp) (by decide)]
    exact g1 i q
theorem RM.chk (h : RM σ I SL) (hm : σ.job = true → σ.mak.length ≤ 24) {J : ab_II} (hf : fM I J [59, 60, 61, 62, 63, 64, 65] [32, 36]) (h32 : J 39 32 = I 39 32) (hb : ∀ i, i < 40 → J 59 i = I 59 i ∧ J 60 i = I 60 i ∧ J 61 i = I 61 i) : RM σ J SL := by
  have ka : ∀ j, j < 59 → j ≠ 39 → J j = I j := fun j h1 h2 => hf.1 j (by simp; omega) h2
  have kf : ∀ k, k ≠ 32 → k ≠ 36 → J 39 k = I 39 k := fun k h1 h2 => hf.2 k (by simp [h1, h2])
  refine ⟨⟨⟨by rw [kf 1 (by decide) (by decide)]; exact h.lg.1, h.lg.2.keep (ka _ (by decide) (by decide)) (ka _ (by decide) (by decide)) (ka _ (by decide) (by decide))⟩, ⟨by rw [kf 2 (by decide) (by decide)]; exact h.dt.1, by rw [kf 6 (by decide) (by decide)]; exact h.dt.2.1, fun k q => by rw [ka 43 (by decide) (by decide)]; exact h.dt.2.2 k q⟩, h.sl.keep (fun j h1 h2 => ka j (by omega) (by omega)), ⟨by rw [kf 16 (by decide) (by decide)]; exact h.fd.1, fun j q => by rw [ka 52 (by decide) (by decide)]; exact h.fd.2 j q⟩, ⟨by rw [kf 20 (by decide) (by decide)]; exact h.jb.1, by rw [kf 30 (by decide) (by decide)]; exact h.jb.2.1, fun q => ?_⟩⟩, fun q => ⟨by rw [kf 23 (by decide) (by decide)]; exact (h.2 q).1, by rw [kf 31 (by decide) (by decide)]; exact (h.2 q).2⟩⟩
  obtain ⟨d1, d2, d3, d4, d5, d6, d7, d8⟩ := h.jb.2.2 q
  refine ⟨by rw [kf 21 (by decide) (by decide)]; exact d1, by rw [kf 22 (by decide) (by decide)]; exact d2, d3.keep (ka _ (by decide) (by decide)) (ka _ (by decide) (by decide)) (ka _ (by decide) (by decide)), fun k q => by rw [ka 58 (by decide) (by decide)]; exact d4 k q, fun q => by rw [kf 29 (by decide) (by decide)]; exact d5 q, by rw [h32]; exact d6, fun j e q2 => ?_, fun g hg => by rw [ka 57 (by decide) (by decide)]; exact d8 g hg⟩
  have hl := (List.getElem?_eq_some_iff.mp q2).1
  have := hm q
  obtain ⟨b1, b2, b3⟩ := hb (0 + j) (by omega)
  rw [b1, b2, b3]
  exact d7 j e q2
theorem m_check_loop (hX : Fx n S R) (hm : σ.job = true → σ.mak.length ≤ 24) (hok : ∀ k, k < 4 → ∀ F ∈ σ.FS k, FOK σ.B F) {I0 : ab_II} (post : ab_Po) (hpost : ∀ J, RM σ J SL → kC I0 J → post (some (.int 0)) (n, S, R, J)) :
    ∀ (d t : Nat) (y : Int32) (J : ab_II) (L : List (Nat × Value)), 330 = t + d → y = nI t → RM σ J SL → kC I0 J → ab_sub L [(0, .ref 39), (1, .int 0), (2, .int y)] → wp 3 67 0 0 MX7_check 9 L [] (n, S, R, J) post := by
  have z44 : (S 44).2 = 330 := hX.len (by decide)
  have z48 : (S 48).2 = 330 := hX.len (by decide)
  have t330 : (330 : Int32).toInt = 330 := by decide +kernel
  intro d
  induction d with
  | zero =>
    intro t y J L ht hy hR hk hL0
    refine wp_loc hL0 ?_
    have ey : y.toInt = t := by rw [hy, tI_n (by omega)]
    refine wp_iload_n (pc := 9) dX7_check_9 rfl ?_
    refine wp_sipush (pc := 10) (v := 330) dX7_check_10 (by decide) ?_
    refine wp_icmp_ge (pc := 13) (tgt := 79) dX7_check_13 (by decide) (fun hc => ?_) (fun hc => ?_)
    · skip
      refine wp_iload_n (pc := 79) dX7_check_79 rfl ?_
      refine wp_ret (pc := 80) dX7_check_80 rfl (by first | trivial | exact Or.inl rfl | exact Or.inr rfl | assumption) ?_
      exact hpost J hR hk
    · rw [t330] at hc; omega
  | succ d ih =>
    intro t y J L ht hy hR hk hL0
    refine wp_loc hL0 ?_
    subst hy
    have ey : (nI t).toInt = t := tI_n (by omega)
    have cy : (nI t).toNatClampNeg = t := nI_c (by omega)
    have nxt : ∀ (J : ab_II), RM σ J SL → kC I0 J → ∀ L, ab_sub L [(0, .ref 39), (1, .int 0), (2, .int (nI t))] → wp 3 67 0 0 MX7_check 73 L [] (n, S, R, J) post := by
      intro J hR hk L hL
      refine wp_loc hL ?_
      refine wp_iinc (pc := 73) dX7_check_73 rfl (by decide) rfl ?_
      refine wp_goto (pc := 76) (tgt := 9) dX7_check_76 (by decide) ?_
      exact ih (t + 1) _ J _ (by omega) (nI_i1 t) hR hk ⟨rfl, rfl, rfl, trivial⟩
    by_cases hlv : 0 ≤ (J 44 t).toInt ∧ (J 44 t).toInt ≤ 3
    · obtain ⟨k, hkk, hmem⟩ := hR.sl.small (f := t) (by omega) hlv.1
      obtain ⟨-, hl44, a, F, h1, h2, hs⟩ := hR.sl.mem hkk hmem
      have hk4 : k < 4 := by
        rcases lvc_cases hkk with ⟨q1, q2⟩ | q
        · rw [hl44, q2, tl_9] at hlv; omega
        · exact q.1
      obtain ⟨f1, f2, f3, f4, f5, f6⟩ := hok k hk4 F (List.mem_of_getElem? h2)
      refine wp_iload_n (pc := 9) dX7_check_9 rfl ?_
      refine wp_sipush (pc := 10) (v := 330) dX7_check_10 (by decide) ?_
      refine wp_icmp_ge (pc := 13) (tgt := 79) dX7_check_13 (by decide) (fun hc => ?_) (fun hc => ?_)
      · rw [t330] at hc; omega
      · skip
        first | refine wp_aload_n (pc := 16) dX7_check_16 rfl ?_ | refine wp_aload_nN (pc := 16) dX7_check_16 rfl ?_
        refine wp_getR (pc := 17) dX7_check_17 fl_LevelStoreModel_22 (by first | assumption | exact Fx.ok (by assumption) (by decide)) rfl (by first | assumption | exact Fx.ref (by assumption) rfl) ?_
        refine wp_iload_n (pc := 20) dX7_check_20 rfl ?_
        refine wp_iaload (pc := 21) dX7_check_21 (by first | assumption | exact Fx.ok (by assumption) (by decide)) (in_I (by omega) (by rw [z44]; omega)) ?_
        rw [cy]
        refine wp_i2l (pc := 22) dX7_check_22 ?_
        refine wp_lconst (pc := 23) (v := 0) dX7_check_23 (by decide) ?_
        refine wp_ldc2 (pc := 24) (v := 3) dX7_check_24 cl2_LevelStoreModel_124 ?_
        refine cv_LevelStoreModel_103 (pc := 27) (s_inI (J 44 t) l64_0 l64_3) rfl dX7_check_27 ⟨by decide, by decide, Nat.zero_le _, Nat.zero_le _⟩ (Nat.le_of_ble_eq_true rfl) (fun v h hp => ?_)
        obtain ⟨rfl, rfl⟩ := hp
        refine wp_if_eq (pc := 30) (tgt := 73) dX7_check_30 (by decide) (fun hc => ?_) (fun hc => ?_)
        · exact absurd hlv (ite01 hc)
        · skip
          first | refine wp_aload_n (pc := 33) dX7_check_33 rfl ?_ | refine wp_aload_nN (pc := 33) dX7_check_33 rfl ?_
          refine wp_getI (pc := 34) dX7_check_34 fl_LevelStoreModel_159 (by first | assumption | exact Fx.ok (by assumption) (by decide)) rfl ?_
          refine wp_istore_n (pc := 37) dX7_check_37 (by decide) rfl ?_
          first | refine wp_aload_n (pc := 38) dX7_check_38 rfl ?_ | refine wp_aload_nN (pc := 38) dX7_check_38 rfl ?_
          first | refine wp_aload_n (pc := 39) dX7_check_39 rfl ?_ | refine wp_aload_nN (pc := 39) dX7_check_39 rfl ?_
          refine wp_getR (pc := 40) dX7_check_40 fl_LevelStoreModel_34 (by first | assumption | exact Fx.ok (by assumption) (by decide)) rfl (by first | assumption | exact Fx.ref (by assumption) rfl) ?_
          refine wp_iload_n (pc := 43) dX7_check_43 rfl ?_
          refine wp_iaload (pc := 44) dX7_check_44 (by first | assumption | exact Fx.ok (by assumption) (by decide)) (in_I (by omega) (by rw [z48]; omega)) ?_
          rw [cy, hs.2.2.2.1]
          refine wp_putI (pc := 45) dX7_check_45 fl_LevelStoreModel_159 (by first | assumption | exact Fx.ok (by assumption) (by decide)) rfl rfl (Or.inl rfl) ?_
          first | refine wp_aload_n (pc := 48) dX7_check_48 rfl ?_ | refine wp_aload_nN (pc := 48) dX7_check_48 rfl ?_
          refine wp_iload_n (pc := 49) dX7_check_49 rfl ?_
          refine cv_LevelStoreModel_221 (pc := 50) (m_codesAs hX (by omega) (I := ab_u2 J 39 32 (nI F.es.length)) (hs.keep (fun j _ _ => ab_u2_r _ _ (by omega))) f1 (ab_u2_s _ _ _ _) f3 f4 f5 (fun j b q => by rw [ab_u2_r _ _ (by decide)]; have := (List.getElem?_eq_some_iff.mp q).1; rw [hR.fd.2 _ (by omega)]; exact f6 j b q)) rfl dX7_check_50 (by first | assumption | exact Fx.ok (by assumption) (by decide)) ⟨by decide, by decide, Nat.zero_le _, Nat.zero_le _⟩ (Nat.le_of_ble_eq_true rfl) (fun v h hp => ?_)
          obtain ⟨rfl, J2, rfl, hf2, hb2⟩ := hp
          refine wp_istore (pc := 53) dX7_check_53 (by decide) rfl ?_
          first | refine wp_aload_n (pc := 55) dX7_check_55 rfl ?_ | refine wp_aload_nN (pc := 55) dX7_check_55 rfl ?_
          refine wp_iload_n (pc := 56) dX7_check_56 rfl ?_
          refine wp_putI (pc := 57) dX7_check_57 fl_LevelStoreModel_159 (by first | assumption | exact Fx.ok (by assumption) (by decide)) rfl rfl (Or.inl rfl) ?_
          refine wp_iload_n (pc := 60) dX7_check_60 rfl ?_
          refine wp_iload (pc := 61) dX7_check_61 rfl ?_
          refine wp_if_eq (pc := 63) (tgt := 70) dX7_check_63 (by decide) (fun hc => ?_) (fun hc => ?_)
          · exact absurd hc (by decide)
          · skip
            refine wp_iconst (pc := 66) (v := 0) dX7_check_66 (by decide) ?_
            refine wp_goto (pc := 67) (tgt := 71) dX7_check_67 (by decide) ?_
            refine wp_iadd (pc := 71) dX7_check_71 ?_
            refine wp_istore_n (pc := 72) dX7_check_72 (by decide) rfl ?_
            refine nxt (ab_u2 J2 39 32 (J 39 32)) (hR.chk hm ?_ (ab_u2_s _ _ _ _) (fun i q => ?_)) ?_ _ ⟨rfl, rfl, rfl, trivial⟩
            · exact ((fM.uf (C := [59, 60, 61, 62, 63, 64, 65]) (K := [32, 36]) (by simp)).tr hf2 (fun _ q => q) (fun _ q => q) (fun _ q => q) (by simp)).tr1 (fM.uf (by simp))
            · rw [ab_u2_r _ _ (by decide), ab_u2_r _ _ (by decide), ab_u2_r _ _ (by decide), (hb2 i q).1, (hb2 i q).2.1, (hb2 i q).2.2, ab_u2_r _ _ (by decide), ab_u2_r _ _ (by decide), ab_u2_r _ _ (by decide)]
              exact ⟨rfl, rfl, rfl⟩
            · exact hk.tr ((kC.u (by decide)).tr ((hf2.kC (by simp)).tr (kC.u (by decide))))
    · skip
      refine wp_iload_n (pc := 9) dX7_check_9 rfl ?_
      refine wp_sipush (pc := 10) (v := 330) dX7_check_10 (by decide) ?_
      refine wp_icmp_ge (pc := 13) (tgt := 79) dX7_check_13 (by decide) (fun hc => ?_) (fun hc => ?_)
      · rw [t330] at hc; omega
      · skip
        first | refine wp_aload_n (pc := 16) dX7_check_16 rfl ?_ | refine wp_aload_nN (pc := 16) dX7_check_16 rfl ?_
        refine wp_getR (pc := 17) dX7_check_17 fl_LevelStoreModel_22 (by first | assumption | exact Fx.ok (by assumption) (by decide)) rfl (by first | assumption | exact Fx.ref (by assumption) rfl) ?_
        refine wp_iload_n (pc := 20) dX7_check_20 rfl ?_
        refine wp_iaload (pc := 21) dX7_check_21 (by first | assumption | exact Fx.ok (by assumption) (by decide)) (in_I (by omega) (by rw [z44]; omega)) ?_
        rw [cy]
        refine wp_i2l (pc := 22) dX7_check_22 ?_
        refine wp_lconst (pc := 23) (v := 0) dX7_check_23 (by decide) ?_
        refine wp_ldc2 (pc := 24) (v := 3) dX7_check_24 cl2_LevelStoreModel_124 ?_
        refine cv_LevelStoreModel_103 (pc := 27) (s_inI (J 44 t) l64_0 l64_3) rfl dX7_check_27 ⟨by decide, by decide, Nat.zero_le _, Nat.zero_le _⟩ (Nat.le_of_ble_eq_true rfl) (fun v h hp => ?_)
        obtain ⟨rfl, rfl⟩ := hp
        refine wp_if_eq (pc := 30) (tgt := 73) dX7_check_30 (by decide) (fun hc => ?_) (fun hc => ?_)
        · skip
          exact nxt J hR hk _ ⟨rfl, rfl, rfl, trivial⟩
        · exact absurd (ite01n hc) hlv
theorem m_check (hX : Fx n S R) (h : RM σ I SL) (hm : σ.job = true → σ.mak.length ≤ 24) (hok : ∀ k, k < 4 → ∀ F ∈ σ.FS k, FOK σ.B F) : wp 3 67 0 0 MX7_check 0 [(0, .ref 39)] [] (n, S, R, I) (mP I n S R σ.check) := by
  first | refine wp_aload_n (pc := 0) dX7_check_0 rfl ?_ | refine wp_aload_nN (pc := 0) dX7_check_0 rfl ?_
  refine wp_iconst (pc := 1) (v := 0) dX7_check_1 (by decide) ?_
  refine wp_putI (pc := 2) dX7_check_2 fl_LevelStoreModel_89 (by first | assumption | exact Fx.ok (by assumption) (by decide)) rfl rfl (Or.inl rfl) ?_
  refine wp_iconst (pc := 5) (v := 0) dX7_check_5 (by decide) ?_
  refine wp_istore_n (pc := 6) dX7_check_6 (by decide) rfl ?_
  refine wp_iconst (pc := 7) (v := 0) dX7_check_7 (by decide) ?_
  refine wp_istore_n (pc := 8) dX7_check_8 (by decide) rfl ?_
  exact m_check_loop hX hm hok (I0 := I) _ (fun J hR hk => mP.id hR rfl hk) 330 0 _ _ _ rfl rfl h.z kC.z ⟨rfl, rfl, rfl, trivial⟩
end M20
