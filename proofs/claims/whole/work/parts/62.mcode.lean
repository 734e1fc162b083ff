/-! THE REFERENCE: the bytes of a file -/
def cdM (I : ab_II) (cl : List Nat) : Prop := I 39 36 = nI cl.length ∧ ∀ (k b : Nat), cl[k]? = some b → I 62 k = nI b
theorem cdM.push {I : ab_II} {cl : List Nat} (h : cdM I cl) (b : Nat) : cdM (ab_u2 (ab_u2 I 62 cl.length (nI b)) 39 36 (nI (cl.length + 1))) (cl ++ [b]) := by
  refine ⟨by rw [ab_u2_s, List.length_append]; rfl, fun k c hk => ?_⟩
  rw [ab_u2_n _ _ (Or.inl (by decide))]
  by_cases hkl : k < cl.length
  · rw [List.getElem?_append_left hkl] at hk
    rw [ab_u2_n _ _ (Or.inr (by omega))]
    exact h.2 k c hk
  · have hz := (List.getElem?_eq_some_iff.mp hk).1
    rw [List.length_append, List.length_singleton] at hz
    have hkk : k = cl.length := by omega
    subst hkk
    rw [List.getElem?_append_right (Nat.le_refl _)] at hk
    simp at hk
    rw [ab_u2_s, hk]
section M12
variable {σ : St} {n : Nat} {S : ab_SH} {R : ab_RR} {I : ab_II} {SL : Nat → List Nat}
theorem fM.push {I : ab_II} {i : Nat} {x y : Int32} : fM I (ab_u2 (ab_u2 I 62 i x) 39 36 y) [62] [36] := (fM.ua (by simp) (by decide)).tr1 (fM.uf (by simp))
theorem m_short_45 (hX : Fx n S R) (w : Int32) {cl : List Nat} {v : Nat} (hcd : cdM I cl) (hl : cl.length < 600) {post : ab_Po} (hpost : post none (n, S, R, ab_u2 (ab_u2 I 62 cl.length (nI v)) 39 36 (nI (cl.length + 1)))) (L : List (Nat × Value)) (hL : ab_sub L [(0, .ref 39), (1, .int w), (2, .int (nI v))]) : wp 0 0 0 0 MX7_shortNumber 45 L [] (n, S, R, I) post := by
  refine wp_loc hL ?_
  have z62 : (S 62).2 = 600 := hX.len (by decide)
  have e0 : (I 39 36).toInt = cl.length := by rw [hcd.1, tI_n (by omega)]
  have c0 : (I 39 36).toNatClampNeg = cl.length := by rw [tI_c]; omega
  first | refine wp_aload_n (pc := 45) dX7_shortNumber_45 rfl ?_ | refine wp_aload_nN (pc := 45) dX7_shortNumber_45 rfl ?_
  refine wp_getR (pc := 46) dX7_shortNumber_46 fl_LevelStoreModel_77 (by first | assumption | exact Fx.ok (by assumption) (by decide)) rfl (by first | assumption | exact Fx.ref (by assumption) rfl) ?_
  first | refine wp_aload_n (pc := 49) dX7_shortNumber_49 rfl ?_ | refine wp_aload_nN (pc := 49) dX7_shortNumber_49 rfl ?_
  refine wp_getI (pc := 50) dX7_shortNumber_50 fl_LevelStoreModel_189 (by first | assumption | exact Fx.ok (by assumption) (by decide)) rfl ?_
  refine wp_iload_n (pc := 53) dX7_shortNumber_53 rfl ?_
  refine wp_iastore (pc := 54) dX7_shortNumber_54 (by first | assumption | exact Fx.ok (by assumption) (by decide)) (in_I (by omega) (by rw [z62]; omega)) ?_
  first | refine wp_aload_n (pc := 55) dX7_shortNumber_55 rfl ?_ | refine wp_aload_nN (pc := 55) dX7_shortNumber_55 rfl ?_
  refine wp_dup (pc := 56) dX7_shortNumber_56 rfl ?_
  refine wp_getI (pc := 57) dX7_shortNumber_57 fl_LevelStoreModel_189 (by first | assumption | exact Fx.ok (by assumption) (by decide)) rfl ?_
  rw [c0, ab_u2_r _ _ (by decide), hcd.1]
  refine wp_iconst (pc := 60) (v := 1) dX7_shortNumber_60 (by decide) ?_
  refine wp_iadd (pc := 61) dX7_shortNumber_61 ?_
  rw [nI_1]
  refine wp_putI (pc := 62) dX7_shortNumber_62 fl_LevelStoreModel_189 (by first | assumption | exact Fx.ok (by assumption) (by decide)) rfl rfl (Or.inl rfl) ?_
  refine wp_retv (pc := 65) dX7_shortNumber_65 rfl ?_
  exact hpost
theorem m_short_loop (hX : Fx n S R) (w : Int32) (post : ab_Po) (cl0 : List Nat) (v0 : Nat) (hl : cl0.length + (sh v0).length ≤ 600) {I0 : ab_II} (hpost : ∀ I', fM I0 I' [62] [36] → cdM I' (cl0 ++ sh v0) → post none (n, S, R, I')) :
    ∀ (v : Nat) (I : ab_II) (cl : List Nat) (L : List (Nat × Value)), v < 268435456 → cl ++ sh v = cl0 ++ sh v0 → fM I0 I [62] [36] → cdM I cl → ab_sub L [(0, .ref 39), (1, .int w), (2, .int (nI v))] → wp 0 0 0 0 MX7_shortNumber 2 L [] (n, S, R, I) post := by
  have z62 : (S 62).2 = 600 := hX.len (by decide)
  have t127 : (127 : Int32).toInt = 127 := by decide +kernel
  intro v
  induction v using Nat.strongRecOn with
  | _ v ih =>
    intro I cl L hv hcl hf hcd hL0
    refine wp_loc hL0 ?_
    have hlen : cl.length + (sh v).length ≤ 600 := by
      have := congrArg List.length hcl
      simp at this
      omega
    have ev : (nI v).toInt = v := tI_n (by omega)
    by_cases h1 : v < 128
    · have hsh := sh_lt h1
      rw [hsh] at hcl hlen
      rw [List.length_singleton] at hlen
      refine wp_iload_n (pc := 2) dX7_shortNumber_2 rfl ?_
      refine wp_bipush (pc := 3) (v := 127) dX7_shortNumber_3 (by decide) ?_
      refine wp_icmp_le (pc := 5) (tgt := 45) dX7_shortNumber_5 (by decide) (fun hc => ?_) (fun hc => ?_)
      · skip
        exact m_short_45 hX w hcd (by omega) (hpost _ (hf.tr1 fM.push) (by rw [← hcl]; exact hcd.push v)) _ ⟨rfl, rfl, rfl, trivial⟩
      · rw [t127] at hc; omega
    · have hsh := sh_ge h1
      rw [hsh] at hcl hlen
      rw [List.length_cons] at hlen
      have e0 : (I 39 36).toInt = cl.length := by rw [hcd.1, tI_n (by omega)]
      have c0 : (I 39 36).toNatClampNeg = cl.length := by rw [tI_c]; omega
      have er : nI v - nI v / 128 * 128 = nI (v % 128) := by
        rw [show (128 : Int32) = nI 128 by decide +kernel]
        exact pk_rem (by omega) (by decide) (by decide)
      have ea : nI (v % 128) + 128 = nI (128 + v % 128) := by
        rw [show (128 : Int32) = nI 128 by decide +kernel, nI_add, Nat.add_comm]
      have ed : nI v / 128 = nI (v / 128) := by
        rw [show (128 : Int32) = nI 128 by decide +kernel]
        exact pk_div (by omega) (by decide) (by decide)
      refine wp_iload_n (pc := 2) dX7_shortNumber_2 rfl ?_
      refine wp_bipush (pc := 3) (v := 127) dX7_shortNumber_3 (by decide) ?_
      refine wp_icmp_le (pc := 5) (tgt := 45) dX7_shortNumber_5 (by decide) (fun hc => ?_) (fun hc => ?_)
      · rw [t127] at hc; omega
      · skip
        first | refine wp_aload_n (pc := 8) dX7_shortNumber_8 rfl ?_ | refine wp_aload_nN (pc := 8) dX7_shortNumber_8 rfl ?_
        refine wp_getR (pc := 9) dX7_shortNumber_9 fl_LevelStoreModel_77 (by first | assumption | exact Fx.ok (by assumption) (by decide)) rfl (by first | assumption | exact Fx.ref (by assumption) rfl) ?_
        first | refine wp_aload_n (pc := 12) dX7_shortNumber_12 rfl ?_ | refine wp_aload_nN (pc := 12) dX7_shortNumber_12 rfl ?_
        refine wp_getI (pc := 13) dX7_shortNumber_13 fl_LevelStoreModel_189 (by first | assumption | exact Fx.ok (by assumption) (by decide)) rfl ?_
        refine wp_iload_n (pc := 16) dX7_shortNumber_16 rfl ?_
        refine wp_sipush (pc := 17) (v := 128) dX7_shortNumber_17 (by decide) ?_
        refine wp_irem (pc := 20) dX7_shortNumber_20 (by decide) ?_
        rw [er]
        refine wp_sipush (pc := 21) (v := 128) dX7_shortNumber_21 (by decide) ?_
        refine wp_iadd (pc := 24) dX7_shortNumber_24 ?_
        rw [ea]
        refine wp_iastore (pc := 25) dX7_shortNumber_25 (by first | assumption | exact Fx.ok (by assumption) (by decide)) (in_I (by omega) (by rw [z62]; omega)) ?_
        first | refine wp_aload_n (pc := 26) dX7_shortNumber_26 rfl ?_ | refine wp_aload_nN (pc := 26) dX7_shortNumber_26 rfl ?_
        refine wp_dup (pc := 27) dX7_shortNumber_27 rfl ?_
        refine wp_getI (pc := 28) dX7_shortNumber_28 fl_LevelStoreModel_189 (by first | assumption | exact Fx.ok (by assumption) (by decide)) rfl ?_
        rw [c0, ab_u2_r _ _ (by decide), hcd.1]
        refine wp_iconst (pc := 31) (v := 1) dX7_shortNumber_31 (by decide) ?_
        refine wp_iadd (pc := 32) dX7_shortNumber_32 ?_
        rw [nI_1]
        refine wp_putI (pc := 33) dX7_shortNumber_33 fl_LevelStoreModel_189 (by first | assumption | exact Fx.ok (by assumption) (by decide)) rfl rfl (Or.inl rfl) ?_
        refine wp_iload_n (pc := 36) dX7_shortNumber_36 rfl ?_
        refine wp_sipush (pc := 37) (v := 128) dX7_shortNumber_37 (by decide) ?_
        refine wp_idiv (pc := 40) dX7_shortNumber_40 (by decide) ?_
        rw [ed]
        refine wp_istore_n (pc := 41) dX7_shortNumber_41 (by decide) rfl ?_
        refine wp_goto (pc := 42) (tgt := 2) dX7_shortNumber_42 (by decide) ?_
        exact ih (v / 128) (by omega) _ (cl ++ [128 + v % 128]) _ (by omega) (by rw [← hcl, List.append_assoc]; rfl) (hf.tr1 fM.push) (hcd.push _) ⟨rfl, rfl, rfl, trivial⟩
theorem m_shortNumber (hX : Fx n S R) {cl : List Nat} (hcd : cdM I cl) (v : Nat) (hv : v < 268435456) (hl : cl.length + (sh v).length ≤ 600) : wp 0 0 0 0 MX7_shortNumber 0 [(0, .ref 39), (1, .int (nI v))] [] (n, S, R, I) (fun w h => w = none ∧ ∃ I', h = (n, S, R, I') ∧ fM I I' [62] [36] ∧ cdM I' (cl ++ sh v)) := by
  refine wp_iload_n (pc := 0) dX7_shortNumber_0 rfl ?_
  refine wp_istore_n (pc := 1) dX7_shortNumber_1 (by decide) rfl ?_
  exact m_short_loop hX _ _ cl v hl (fun I' h1 h2 => ⟨rfl, I', rfl, h1, h2⟩) v I cl _ hv rfl fM.rf hcd ⟨rfl, rfl, rfl, trivial⟩
theorem m_enc_sum (hX : Fx n S R) {cl : List Nat} (hcd : cdM I cl) (hl : cl.length < 600) {post : ab_Po} (hpost : post none (n, S, R, ab_u2 (ab_u2 I 62 cl.length (nI (cl.sum % 251))) 39 36 (nI (cl.length + 1)))) (hb : ∀ b ∈ cl, b < 256) :
    ∀ (d t : Nat) (y m : Int32) (L : List (Nat × Value)), cl.length = t + d → y = nI t → m = nI (cl.take t).sum → ab_sub L [(0, .ref 39), (1, .int m), (2, .int y)] → wp 1 22 0 0 MX7_encode 158 L [] (n, S, R, I) post := by
  have z62 : (S 62).2 = 600 := hX.len (by decide)
  have e0 : (I 39 36).toInt = cl.length := by rw [hcd.1, tI_n (by omega)]
  have c0 : (I 39 36).toNatClampNeg = cl.length := by rw [tI_c]; omega
  have hsum : cl.sum < 268435456 := by
    have key : ∀ l : List Nat, (∀ b ∈ l, b < 256) → l.sum ≤ 256 * l.length := by
      intro l
      induction l with
      | nil => intro _; simp
      | cons a l ih =>
        intro h
        have h1 := h a List.mem_cons_self
        have h2 := ih (fun b q => h b (List.mem_cons_of_mem _ q))
        rw [List.sum_cons, List.length_cons]
        omega
    have := key cl hb
    omega
  intro d
  induction d with
  | zero =>
    intro t y m L ht hy hm hL0
    refine wp_loc hL0 ?_
    have ey : y.toInt = t := by rw [hy, tI_n (by omega)]
    rw [List.take_of_length_le (by omega)] at hm
    have er : m - m / 251 * 251 = nI (cl.sum % 251) := by
      rw [hm, show (251 : Int32) = nI 251 by decide +kernel]
      exact pk_rem (by omega) (by decide) (by decide)
    refine wp_iload_n (pc := 158) dX7_encode_158 rfl ?_
    first | refine wp_aload_n (pc := 159) dX7_encode_159 rfl ?_ | refine wp_aload_nN (pc := 159) dX7_encode_159 rfl ?_
    refine wp_getI (pc := 160) dX7_encode_160 fl_LevelStoreModel_189 (by first | assumption | exact Fx.ok (by assumption) (by decide)) rfl ?_
    refine wp_icmp_ge (pc := 163) (tgt := 181) dX7_encode_163 (by decide) (fun hc => ?_) (fun hc => ?_)
    · skip
      first | refine wp_aload_n (pc := 181) dX7_encode_181 rfl ?_ | refine wp_aload_nN (pc := 181) dX7_encode_181 rfl ?_
      refine wp_getR (pc := 182) dX7_encode_182 fl_LevelStoreModel_77 (by first | assumption | exact Fx.ok (by assumption) (by decide)) rfl (by first | assumption | exact Fx.ref (by assumption) rfl) ?_
      first | refine wp_aload_n (pc := 185) dX7_encode_185 rfl ?_ | refine wp_aload_nN (pc := 185) dX7_encode_185 rfl ?_
      refine wp_getI (pc := 186) dX7_encode_186 fl_LevelStoreModel_189 (by first | assumption | exact Fx.ok (by assumption) (by decide)) rfl ?_
      refine wp_iload_n (pc := 189) dX7_encode_189 rfl ?_
      refine wp_sipush (pc := 190) (v := 251) dX7_encode_190 (by decide) ?_
      refine wp_irem (pc := 193) dX7_encode_193 (by decide) ?_
      rw [er]
      refine wp_iastore (pc := 194) dX7_encode_194 (by first | assumption | exact Fx.ok (by assumption) (by decide)) (in_I (by omega) (by rw [z62]; omega)) ?_
      first | refine wp_aload_n (pc := 195) dX7_encode_195 rfl ?_ | refine wp_aload_nN (pc := 195) dX7_encode_195 rfl ?_
      refine wp_dup (pc := 196) dX7_encode_196 rfl ?_
      refine wp_getI (pc := 197) dX7_encode_197 fl_LevelStoreModel_189 (by first | assumption | exact Fx.ok (by assumption) (by decide)) rfl ?_
      rw [c0, ab_u2_r _ _ (by decide), hcd.1]
      refine wp_iconst (pc := 200) (v := 1) dX7_encode_200 (by decide) ?_
      refine wp_iadd (pc := 201) dX7_encode_201 ?_
      rw [nI_1]
      refine wp_putI (pc := 202) dX7_encode_202 fl_LevelStoreModel_189 (by first | assumption | exact Fx.ok (by assumption) (by decide)) rfl rfl (Or.inl rfl) ?_
      refine wp_retv (pc := 205) dX7_encode_205 rfl ?_
      exact hpost
    · omega
  | succ d ih =>
    intro t y m L ht hy hm hL0
    refine wp_loc hL0 ?_
    have ey : y.toInt = t := by rw [hy, tI_n (by omega)]
    have cy : y.toNatClampNeg = t := by rw [tI_c]; omega
    have eg : cl[t]? = some cl[t] := List.getElem?_eq_getElem (by omega)
    refine wp_iload_n (pc := 158) dX7_encode_158 rfl ?_
    first | refine wp_aload_n (pc := 159) dX7_encode_159 rfl ?_ | refine wp_aload_nN (pc := 159) dX7_encode_159 rfl ?_
    refine wp_getI (pc := 160) dX7_encode_160 fl_LevelStoreModel_189 (by first | assumption | exact Fx.ok (by assumption) (by decide)) rfl ?_
    refine wp_icmp_ge (pc := 163) (tgt := 181) dX7_encode_163 (by decide) (fun hc => ?_) (fun hc => ?_)
    · omega
    · skip
      refine wp_iload_n (pc := 166) dX7_encode_166 rfl ?_
      first | refine wp_aload_n (pc := 167) dX7_encode_167 rfl ?_ | refine wp_aload_nN (pc := 167) dX7_encode_167 rfl ?_
      refine wp_getR (pc := 168) dX7_encode_168 fl_LevelStoreModel_77 (by first | assumption | exact Fx.ok (by assumption) (by decide)) rfl (by first | assumption | exact Fx.ref (by assumption) rfl) ?_
      refine wp_iload_n (pc := 171) dX7_encode_171 rfl ?_
      refine wp_iaload (pc := 172) dX7_encode_172 (by first | assumption | exact Fx.ok (by assumption) (by decide)) (in_I (by omega) (by rw [z62]; omega)) ?_
      refine wp_iadd (pc := 173) dX7_encode_173 ?_
      refine wp_istore_n (pc := 174) dX7_encode_174 (by decide) rfl ?_
      refine wp_iinc (pc := 175) dX7_encode_175 rfl (by decide) rfl ?_
      refine wp_goto (pc := 178) (tgt := 158) dX7_encode_178 (by decide) ?_
      refine ih (t + 1) _ _ _ (by omega) (by rw [hy]; exact nI_i1 t) ?_ ⟨rfl, rfl, rfl, trivial⟩
      rw [td_succ eg, List.sum_append, cy, hcd.2 t _ eg, hm, nI_add]
      simp
/-- the rest of one entry -/
theorem m_enc_loop (hX : Fx n S R) {I0 : ab_II} {es : List En} (hb : I0 39 32 = nI es.length) (ha : arr3 I0 59 60 61 0 es) (hv : vk es) (post : ab_Po) (hpost : ∀ J, fM I0 J [62] [36] → cdM J (es.length :: bd 0 es) → ∀ L, ab_sub L [(0, .ref 39)] → wp 1 22 0 0 MX7_encode 154 L [] (n, S, R, J) post) :
    ∀ (d t : Nat) (y : Int32) (J : ab_II) (L : List (Nat × Value)), es.length = t + d → y = nI t → fM I0 J [62] [36] → cdM J (es.length :: bd 0 (es.take t)) → ab_sub L [(0, .ref 39), (1, .int y)] → wp 1 22 0 0 MX7_encode 30 L [] (n, S, R, J) post := by
  have z59 : (S 59).2 = 40 := hX.len (by decide)
  have z60 : (S 60).2 = 40 := hX.len (by decide)
  have z61 : (S 61).2 = 40 := hX.len (by decide)
  have h24 := hv.2.2
  intro d
  induction d with
  | zero =>
    intro t y J L ht hy hf hcd hL0
    refine wp_loc hL0 ?_
    have ey : y.toInt = t := by rw [hy, tI_n (by omega)]
    have e32 : (J 39 32).toInt = es.length := by rw [hf.2 32 (by simp), hb, tI_n (by omega)]
    rw [List.take_of_length_le (by omega)] at hcd
    refine wp_iload_n (pc := 30) dX7_encode_30 rfl ?_
    first | refine wp_aload_n (pc := 31) dX7_encode_31 rfl ?_ | refine wp_aload_nN (pc := 31) dX7_encode_31 rfl ?_
    refine wp_getI (pc := 32) dX7_encode_32 fl_LevelStoreModel_159 (by first | assumption | exact Fx.ok (by assumption) (by decide)) rfl ?_
    refine wp_icmp_ge (pc := 35) (tgt := 154) dX7_encode_35 (by decide) (fun hc => ?_) (fun hc => ?_)
    · skip
      exact hpost J hf hcd _ ⟨rfl, trivial⟩
    · omega
  | succ d ih =>
    intro t y J L ht hy hf hcd hL0
    refine wp_loc hL0 ?_
    have ey : y.toInt = t := by rw [hy, tI_n (by omega)]
    have cy : y.toNatClampNeg = t := by rw [tI_c]; omega
    have e32 : (J 39 32).toInt = es.length := by rw [hf.2 32 (by simp), hb, tI_n (by omega)]
    obtain ⟨e, eg⟩ : ∃ e, es[t]? = some e := ⟨_, List.getElem?_eq_getElem (by omega)⟩
    obtain ⟨a1, a2, a3⟩ := ha t e eg
    rw [Nat.zero_add] at a1 a2 a3
    have a1 : J 59 t = e.1 := by rw [hf.1 59 (by simp) (by decide)]; exact a1
    have hve := hv.1 e (List.mem_of_getElem? eg)
    have hlk := lastK_take hv eg
    have hbl := bd_len hv t (by omega)
    obtain ⟨v1, v2, v3, v4, v5⟩ := id hve
    have hbd : bd 0 (es.take (t + 1)) = bd 0 (es.take t) ++ encE (lastK 0 (es.take t)) e := by rw [td_succ eg, bd_app]
    generalize hpk : lastK 0 (es.take t) = pk at *
    have l1 := sh_len2 (v := (e.1.toInt - pk).toNat) (by omega)
    have l2 := sh_len3 (v := (2 * e.2.1.toInt + 1).toNat) (by omega)
    have l3 := sh_len3 (v := (2 * e.2.1.toInt).toNat) (by omega)
    have tm2 : (-2 : Int32).toInt = -2 := by decide +kernel
    -- the last leg
    have s148 : ∀ (J : ab_II) (x : Int32), fM I0 J [62] [36] → cdM J (es.length :: bd 0 (es.take (t + 1))) → ∀ L, ab_sub L [(0, .ref 39), (1, .int y)] → wp 1 22 0 0 MX7_encode 148 L [] (n, S, R, J) post := by
      intro J x hf hcd L hL
      refine wp_loc hL ?_
      refine wp_iinc (pc := 148) dX7_encode_148 rfl (by decide) rfl ?_
      refine wp_goto (pc := 151) (tgt := 30) dX7_encode_151 (by decide) ?_
      exact ih (t + 1) _ J _ (by omega) (by rw [hy]; exact nI_i1 t) hf hcd ⟨rfl, rfl, trivial⟩
    have s87 : ∀ (J : ab_II) (g : Int32), fM I0 J [62] [36] → cdM J (es.length :: bd 0 (es.take t) ++ sh (e.1.toInt - pk).toNat) → bit g (e.2.2 = cNONE) → ∀ L, ab_sub L [(0, .ref 39), (1, .int y), (2, .int g)] → wp 1 22 0 0 MX7_encode 87 L [] (n, S, R, J) post := by
      intro J g hf hcd hg L hL
      refine wp_loc hL ?_
      have a2 : J 60 t = e.2.1 := by rw [hf.1 60 (by simp) (by decide)]; exact a2
      have a3 : J 61 t = e.2.2 := by rw [hf.1 61 (by simp) (by decide)]; exact a3
      have e2 : ((2 : Int32) * e.2.1) = nI (2 * e.2.1.toInt).toNat := tI_N (by rw [tI_mul (by rw [tl_2]; omega) (by rw [tl_2]; omega), tl_2]; omega)
      have hlc : (es.length :: bd 0 (es.take t) ++ sh (e.1.toInt - pk).toNat).length ≤ 1 + 8 * t + 2 := by
        rw [List.length_append, List.length_cons]; omega
      rcases hg with ⟨rfl, hg⟩ | ⟨rfl, hg⟩
      · have e3 : nI (2 * e.2.1.toInt).toNat + 1 = nI (2 * e.2.1.toInt + 1).toNat := by rw [nI_1]; congr 1; omega
        first | refine wp_aload_n (pc := 87) dX7_encode_87 rfl ?_ | refine wp_aload_nN (pc := 87) dX7_encode_87 rfl ?_
        refine wp_iconst (pc := 88) (v := 2) dX7_encode_88 (by decide) ?_
        first | refine wp_aload_n (pc := 89) dX7_encode_89 rfl ?_ | refine wp_aload_nN (pc := 89) dX7_encode_89 rfl ?_
        refine wp_getR (pc := 90) dX7_encode_90 fl_LevelStoreModel_71 (by first | assumption | exact Fx.ok (by assumption) (by decide)) rfl (by first | assumption | exact Fx.ref (by assumption) rfl) ?_
        refine wp_iload_n (pc := 93) dX7_encode_93 rfl ?_
        refine wp_iaload (pc := 94) dX7_encode_94 (by first | assumption | exact Fx.ok (by assumption) (by decide)) (in_I (by omega) (by rw [z60]; omega)) ?_
        rw [cy, a2]
        refine wp_imul (pc := 95) dX7_encode_95 ?_
        rw [e2]
        refine wp_iload_n (pc := 96) dX7_encode_96 rfl ?_
        refine wp_if_eq (pc := 97) (tgt := 104) dX7_encode_97 (by decide) (fun hc => ?_) (fun hc => ?_)
        · exact absurd hc (by decide)
        · skip
          refine wp_iconst (pc := 100) (v := 1) dX7_encode_100 (by decide) ?_
          refine wp_goto (pc := 101) (tgt := 105) dX7_encode_101 (by decide) ?_
          refine wp_iadd (pc := 105) dX7_encode_105 ?_
          rw [e3]
          refine cv_LevelStoreModel_192 (pc := 106) (m_shortNumber hX hcd _ (by omega) (by omega)) rfl dX7_encode_106 (by first | assumption | exact Fx.ok (by assumption) (by decide)) ⟨by decide, by decide, Nat.zero_le _, Nat.zero_le _⟩ (Nat.le_of_ble_eq_true rfl) (fun v h hp => ?_)
          obtain ⟨rfl, J2, rfl, hf2, hcd2⟩ := hp
          refine wp_iload_n (pc := 109) dX7_encode_109 rfl ?_
          refine wp_if_ne (pc := 110) (tgt := 148) dX7_encode_110 (by decide) (fun hc => ?_) (fun hc => ?_)
          · skip
            refine s148 J2 0 (hf.tr1 hf2) ?_ _ ⟨rfl, rfl, trivial⟩
            rw [hbd]
            unfold encE
            rw [if_pos hg]
            rw [List.append_assoc] at hcd2
            exact hcd2
          · exact absurd hc (by decide)
      · have hva := v5.resolve_left hg
        have l4 := sh_len3 (v := fd e.2.2.toInt) (by unfold fd; split <;> omega)
        have fin : ∀ (J2 : ab_II), fM I0 J2 [62] [36] → cdM J2 ((es.length :: bd 0 (es.take t) ++ sh (e.1.toInt - pk).toNat) ++ sh (2 * e.2.1.toInt).toNat) → ∀ (x : Int32), x = nI (fd e.2.2.toInt) → ∀ L, ab_sub L [(0, .ref 39), (1, .int y)] → wp 1 22 0 0 MX7_encode 145 L [.int x, .ref 39] (n, S, R, J2) post := by
          intro J2 hf2 hcd2 x hx L hL
          refine wp_loc hL ?_
          subst hx
          have hlc2 : ((es.length :: bd 0 (es.take t) ++ sh (e.1.toInt - pk).toNat) ++ sh (2 * e.2.1.toInt).toNat).length ≤ 1 + 8 * t + 2 + 3 := by
            rw [List.length_append]; omega
          refine cv_LevelStoreModel_192 (pc := 145) (m_shortNumber hX hcd2 _ (by unfold fd; split <;> omega) (by omega)) rfl dX7_encode_145 (by first | assumption | exact Fx.ok (by assumption) (by decide)) ⟨by decide, by decide, Nat.zero_le _, Nat.zero_le _⟩ (Nat.le_of_ble_eq_true rfl) (fun v h hp => ?_)
          obtain ⟨rfl, J3, rfl, hf3, hcd3⟩ := hp
          refine s148 J3 0 (hf2.tr1 hf3) ?_ _ ⟨rfl, rfl, trivial⟩
          rw [hbd]
          unfold encE
          rw [if_neg hg]
          rw [List.append_assoc, List.append_assoc] at hcd3
          exact hcd3
        first | refine wp_aload_n (pc := 87) dX7_encode_87 rfl ?_ | refine wp_aload_nN (pc := 87) dX7_encode_87 rfl ?_
        refine wp_iconst (pc := 88) (v := 2) dX7_encode_88 (by decide) ?_
        first | refine wp_aload_n (pc := 89) dX7_encode_89 rfl ?_ | refine wp_aload_nN (pc := 89) dX7_encode_89 rfl ?_
        refine wp_getR (pc := 90) dX7_encode_90 fl_LevelStoreModel_71 (by first | assumption | exact Fx.ok (by assumption) (by decide)) rfl (by first | assumption | exact Fx.ref (by assumption) rfl) ?_
        refine wp_iload_n (pc := 93) dX7_encode_93 rfl ?_
        refine wp_iaload (pc := 94) dX7_encode_94 (by first | assumption | exact Fx.ok (by assumption) (by decide)) (in_I (by omega) (by rw [z60]; omega)) ?_
        rw [cy, a2]
        refine wp_imul (pc := 95) dX7_encode_95 ?_
        rw [e2]
        refine wp_iload_n (pc := 96) dX7_encode_96 rfl ?_
        refine wp_if_eq (pc := 97) (tgt := 104) dX7_encode_97 (by decide) (fun hc => ?_) (fun hc => ?_)
        · skip
          refine wp_iconst (pc := 104) (v := 0) dX7_encode_104 (by decide) ?_
          refine wp_iadd (pc := 105) dX7_encode_105 ?_
          rw [show nI (2 * e.2.1.toInt).toNat + 0 = nI (2 * e.2.1.toInt).toNat by rw [Int32.add_zero]]
          refine cv_LevelStoreModel_192 (pc := 106) (m_shortNumber hX hcd _ (by omega) (by omega)) rfl dX7_encode_106 (by first | assumption | exact Fx.ok (by assumption) (by decide)) ⟨by decide, by decide, Nat.zero_le _, Nat.zero_le _⟩ (Nat.le_of_ble_eq_true rfl) (fun v h hp => ?_)
          obtain ⟨rfl, J2, rfl, hf2, hcd2⟩ := hp
          have b3 : J2 61 t = e.2.2 := by rw [hf2.1 61 (by simp) (by decide)]; exact a3
          refine wp_iload_n (pc := 109) dX7_encode_109 rfl ?_
          refine wp_if_ne (pc := 110) (tgt := 148) dX7_encode_110 (by decide) (fun hc => ?_) (fun hc => ?_)
          · exact absurd rfl hc
          · skip
            first | refine wp_aload_n (pc := 113) dX7_encode_113 rfl ?_ | refine wp_aload_nN (pc := 113) dX7_encode_113 rfl ?_
            first | refine wp_aload_n (pc := 114) dX7_encode_114 rfl ?_ | refine wp_aload_nN (pc := 114) dX7_encode_114 rfl ?_
            refine wp_getR (pc := 115) dX7_encode_115 fl_LevelStoreModel_74 (by first | assumption | exact Fx.ok (by assumption) (by decide)) rfl (by first | assumption | exact Fx.ref (by assumption) rfl) ?_
            refine wp_iload_n (pc := 118) dX7_encode_118 rfl ?_
            refine wp_iaload (pc := 119) dX7_encode_119 (by first | assumption | exact Fx.ok (by assumption) (by decide)) (in_I (by omega) (by rw [z61]; omega)) ?_
            rw [cy, b3]
            refine wp_if_ge (pc := 120) (tgt := 137) dX7_encode_120 (by decide) (fun hc => ?_) (fun hc => ?_)
            · skip
              refine wp_iconst (pc := 137) (v := 2) dX7_encode_137 (by decide) ?_
              first | refine wp_aload_n (pc := 138) dX7_encode_138 rfl ?_ | refine wp_aload_nN (pc := 138) dX7_encode_138 rfl ?_
              refine wp_getR (pc := 139) dX7_encode_139 fl_LevelStoreModel_74 (by first | assumption | exact Fx.ok (by assumption) (by decide)) rfl (by first | assumption | exact Fx.ref (by assumption) rfl) ?_
              refine wp_iload_n (pc := 142) dX7_encode_142 rfl ?_
              refine wp_iaload (pc := 143) dX7_encode_143 (by first | assumption | exact Fx.ok (by assumption) (by decide)) (in_I (by omega) (by rw [z61]; omega)) ?_
              rw [cy, b3]
              refine wp_imul (pc := 144) dX7_encode_144 ?_
              refine fin J2 (hf.tr1 hf2) hcd2 _ (tI_N ?_) _ ⟨rfl, rfl, trivial⟩
              unfold fd
              first
              | (rw [if_pos (by omega), tI_mul (by rw [tl_2]; omega) (by rw [tl_2]; omega), tl_2]; omega)
              | (rw [if_neg (by omega), tI_sub (by rw [tI_mul (by rw [tm2]; omega) (by rw [tm2]; omega), tm2, tl_1]; omega) (by rw [tI_mul (by rw [tm2]; omega) (by rw [tm2]; omega), tm2, tl_1]; omega), tI_mul (by rw [tm2]; omega) (by rw [tm2]; omega), tm2, tl_1]; omega)
            · skip
              refine wp_bipush (pc := 123) (v := -2) dX7_encode_123 (by decide) ?_
              first | refine wp_aload_n (pc := 125) dX7_encode_125 rfl ?_ | refine wp_aload_nN (pc := 125) dX7_encode_125 rfl ?_
              refine wp_getR (pc := 126) dX7_encode_126 fl_LevelStoreModel_74 (by first | assumption | exact Fx.ok (by assumption) (by decide)) rfl (by first | assumption | exact Fx.ref (by assumption) rfl) ?_
              refine wp_iload_n (pc := 129) dX7_encode_129 rfl ?_
              refine wp_iaload (pc := 130) dX7_encode_130 (by first | assumption | exact Fx.ok (by assumption) (by decide)) (in_I (by omega) (by rw [z61]; omega)) ?_
              rw [cy, b3]
              refine wp_imul (pc := 131) dX7_encode_131 ?_
              refine wp_iconst (pc := 132) (v := 1) dX7_encode_132 (by decide) ?_
              refine wp_isub (pc := 133) dX7_encode_133 ?_
              refine wp_goto (pc := 134) (tgt := 145) dX7_encode_134 (by decide) ?_
              refine fin J2 (hf.tr1 hf2) hcd2 _ (tI_N ?_) _ ⟨rfl, rfl, trivial⟩
              unfold fd
              first
              | (rw [if_pos (by omega), tI_mul (by rw [tl_2]; omega) (by rw [tl_2]; omega), tl_2]; omega)
              | (rw [if_neg (by omega), tI_sub (by rw [tI_mul (by rw [tm2]; omega) (by rw [tm2]; omega), tm2, tl_1]; omega) (by rw [tI_mul (by rw [tm2]; omega) (by rw [tm2]; omega), tm2, tl_1]; omega), tI_mul (by rw [tm2]; omega) (by rw [tm2]; omega), tm2, tl_1]; omega)
        · exact absurd rfl hc
    have s84 : ∀ (g x : Int32), bit g (e.2.2 = cNONE) → x = nI (e.1.toInt - pk).toNat → ∀ L, ab_sub L [(0, .ref 39), (1, .int y), (2, .int g)] → wp 1 22 0 0 MX7_encode 84 L [.int x, .ref 39] (n, S, R, J) post := by
      intro g x hg hx L hL
      refine wp_loc hL ?_
      subst hx
      refine cv_LevelStoreModel_192 (pc := 84) (m_shortNumber hX hcd _ (by omega) (by rw [List.length_cons]; omega)) rfl dX7_encode_84 (by first | assumption | exact Fx.ok (by assumption) (by decide)) ⟨by decide, by decide, Nat.zero_le _, Nat.zero_le _⟩ (Nat.le_of_ble_eq_true rfl) (fun v h hp => ?_)
      obtain ⟨rfl, J2, rfl, hf2, hcd2⟩ := hp
      exact s87 J2 g (hf.tr1 hf2) hcd2 hg _ ⟨rfl, rfl, rfl, trivial⟩
    have a3 : J 61 t = e.2.2 := by rw [hf.1 61 (by simp) (by decide)]; exact a3
    have s54 : ∀ (g : Int32), bit g (e.2.2 = cNONE) → ∀ L, ab_sub L [(0, .ref 39), (1, .int y)] → wp 1 22 0 0 MX7_encode 54 L [.int g] (n, S, R, J) post := by
      intro g hg L hL
      refine wp_loc hL ?_
      by_cases h0 : t = 0
      · subst h0
        have hp0 : pk = 0 := by rw [← hpk]; rfl
        refine wp_istore_n (pc := 54) dX7_encode_54 (by decide) rfl ?_
        first | refine wp_aload_n (pc := 55) dX7_encode_55 rfl ?_ | refine wp_aload_nN (pc := 55) dX7_encode_55 rfl ?_
        refine wp_iload_n (pc := 56) dX7_encode_56 rfl ?_
        refine wp_if_ne (pc := 57) (tgt := 69) dX7_encode_57 (by decide) (fun hc => ?_) (fun hc => ?_)
        · omega
        · skip
          first | refine wp_aload_n (pc := 60) dX7_encode_60 rfl ?_ | refine wp_aload_nN (pc := 60) dX7_encode_60 rfl ?_
          refine wp_getR (pc := 61) dX7_encode_61 fl_LevelStoreModel_68 (by first | assumption | exact Fx.ok (by assumption) (by decide)) rfl (by first | assumption | exact Fx.ref (by assumption) rfl) ?_
          refine wp_iconst (pc := 64) (v := 0) dX7_encode_64 (by decide) ?_
          refine wp_iaload (pc := 65) dX7_encode_65 (by first | assumption | exact Fx.ok (by assumption) (by decide)) (by rw [z59]; exact in_I (by decide) (by decide)) ?_
          rw [show (0 : Int32).toNatClampNeg = 0 by decide, a1]
          refine wp_goto (pc := 66) (tgt := 84) dX7_encode_66 (by decide) ?_
          exact s84 g _ hg (tI_N (by omega)) _ ⟨rfl, rfl, rfl, trivial⟩
      · have ey1 : y - 1 = nI (t - 1) := by rw [hy]; exact pk_sub (b := 1) (by omega)
        have ey2 : (nI (t - 1)).toInt = ((t - 1 : Nat) : Int) := tI_n (by omega)
        have cy2 : (nI (t - 1)).toNatClampNeg = t - 1 := nI_c (by omega)
        obtain ⟨e', eg'⟩ : ∃ e', es[t - 1]? = some e' := ⟨_, List.getElem?_eq_getElem (by omega)⟩
        have b1 := (ha (t - 1) e' eg').1
        rw [Nat.zero_add] at b1
        have b1 : J 59 (t - 1) = e'.1 := by rw [hf.1 59 (by simp) (by decide)]; exact b1
        have hpe : e'.1.toInt = pk := by
          rw [← hpk]
          unfold lastK
          rw [List.getLast?_take, if_neg h0, eg']
          rfl
        refine wp_istore_n (pc := 54) dX7_encode_54 (by decide) rfl ?_
        first | refine wp_aload_n (pc := 55) dX7_encode_55 rfl ?_ | refine wp_aload_nN (pc := 55) dX7_encode_55 rfl ?_
        refine wp_iload_n (pc := 56) dX7_encode_56 rfl ?_
        refine wp_if_ne (pc := 57) (tgt := 69) dX7_encode_57 (by decide) (fun hc => ?_) (fun hc => ?_)
        · skip
          first | refine wp_aload_n (pc := 69) dX7_encode_69 rfl ?_ | refine wp_aload_nN (pc := 69) dX7_encode_69 rfl ?_
          refine wp_getR (pc := 70) dX7_encode_70 fl_LevelStoreModel_68 (by first | assumption | exact Fx.ok (by assumption) (by decide)) rfl (by first | assumption | exact Fx.ref (by assumption) rfl) ?_
          refine wp_iload_n (pc := 73) dX7_encode_73 rfl ?_
          refine wp_iaload (pc := 74) dX7_encode_74 (by first | assumption | exact Fx.ok (by assumption) (by decide)) (in_I (by omega) (by rw [z59]; omega)) ?_
          rw [cy, a1]
          first | refine wp_aload_n (pc := 75) dX7_encode_75 rfl ?_ | refine wp_aload_nN (pc := 75) dX7_encode_75 rfl ?_
          refine wp_getR (pc := 76) dX7_encode_76 fl_LevelStoreModel_68 (by first | assumption | exact Fx.ok (by assumption) (by decide)) rfl (by first | assumption | exact Fx.ref (by assumption) rfl) ?_
          refine wp_iload_n (pc := 79) dX7_encode_79 rfl ?_
          refine wp_iconst (pc := 80) (v := 1) dX7_encode_80 (by decide) ?_
          refine wp_isub (pc := 81) dX7_encode_81 ?_
          rw [ey1]
          refine wp_iaload (pc := 82) dX7_encode_82 (by first | assumption | exact Fx.ok (by assumption) (by decide)) (in_I (by omega) (by rw [z59]; omega)) ?_
          rw [cy2, b1]
          refine wp_isub (pc := 83) dX7_encode_83 ?_
          exact s84 g _ hg (tI_N (by rw [tI_sub (by omega) (by omega)]; omega)) _ ⟨rfl, rfl, rfl, trivial⟩
        · omega
    refine wp_iload_n (pc := 30) dX7_encode_30 rfl ?_
    first | refine wp_aload_n (pc := 31) dX7_encode_31 rfl ?_ | refine wp_aload_nN (pc := 31) dX7_encode_31 rfl ?_
    refine wp_getI (pc := 32) dX7_encode_32 fl_LevelStoreModel_159 (by first | assumption | exact Fx.ok (by assumption) (by decide)) rfl ?_
    refine wp_icmp_ge (pc := 35) (tgt := 154) dX7_encode_35 (by decide) (fun hc => ?_) (fun hc => ?_)
    · omega
    · skip
      first | refine wp_aload_n (pc := 38) dX7_encode_38 rfl ?_ | refine wp_aload_nN (pc := 38) dX7_encode_38 rfl ?_
      refine wp_getR (pc := 39) dX7_encode_39 fl_LevelStoreModel_74 (by first | assumption | exact Fx.ok (by assumption) (by decide)) rfl (by first | assumption | exact Fx.ref (by assumption) rfl) ?_
      refine wp_iload_n (pc := 42) dX7_encode_42 rfl ?_
      refine wp_iaload (pc := 43) dX7_encode_43 (by first | assumption | exact Fx.ok (by assumption) (by decide)) (in_I (by omega) (by rw [z61]; omega)) ?_
      rw [cy, a3]
      refine wp_ldc (pc := 44) (v := -1000009) dX7_encode_44 cn_LevelStoreModel_116 ?_
      refine wp_icmp_ne (pc := 46) (tgt := 53) dX7_encode_46 (by decide) (fun hc => ?_) (fun hc => ?_)
      · have hg : bit 0 (e.2.2 = cNONE) := bit_0 (fun q => hc (by rw [q]))
        refine wp_iconst (pc := 53) (v := 0) dX7_encode_53 (by decide) ?_
        exact s54 _ hg _ ⟨rfl, rfl, trivial⟩
      · have hg : bit 1 (e.2.2 = cNONE) := bit_1 (tI_eq hc)
        refine wp_iconst (pc := 49) (v := 1) dX7_encode_49 (by decide) ?_
        refine wp_goto (pc := 50) (tgt := 54) dX7_encode_50 (by decide) ?_
        exact s54 _ hg _ ⟨rfl, rfl, trivial⟩
theorem m_enc_154 (hX : Fx n S R) (post : ab_Po) (hk : ∀ L, ab_sub L [(0, .ref 39), (1, .int 0), (2, .int 0)] → wp 1 22 0 0 MX7_encode 158 L [] (n, S, R, I) post) (L : List (Nat × Value)) (hL : ab_sub L [(0, .ref 39)]) : wp 1 22 0 0 MX7_encode 154 L [] (n, S, R, I) post := by
  refine wp_loc hL ?_
  refine wp_iconst (pc := 154) (v := 0) dX7_encode_154 (by decide) ?_
  refine wp_istore_n (pc := 155) dX7_encode_155 (by decide) rfl ?_
  refine wp_iconst (pc := 156) (v := 0) dX7_encode_156 (by decide) ?_
  refine wp_istore_n (pc := 157) dX7_encode_157 (by decide) rfl ?_
  exact hk _ ⟨rfl, rfl, rfl, trivial⟩
theorem m_encode (hX : Fx n S R) {es : List En} (hb : I 39 32 = nI es.length) (ha : arr3 I 59 60 61 0 es) (hv : vk es) : wp 1 22 0 0 MX7_encode 0 [(0, .ref 39)] [] (n, S, R, I) (fun w h => w = none ∧ ∃ J, h = (n, S, R, J) ∧ fM I J [62] [36] ∧ cdM J (enc es)) := by
  have z62 : (S 62).2 = 600 := hX.len (by decide)
  have h24 := hv.2.2
  have hl := enc_len hv
  first | refine wp_aload_n (pc := 0) dX7_encode_0 rfl ?_ | refine wp_aload_nN (pc := 0) dX7_encode_0 rfl ?_
  refine wp_iconst (pc := 1) (v := 0) dX7_encode_1 (by decide) ?_
  refine wp_putI (pc := 2) dX7_encode_2 fl_LevelStoreModel_189 (by first | assumption | exact Fx.ok (by assumption) (by decide)) rfl rfl (Or.inl rfl) ?_
  first | refine wp_aload_n (pc := 5) dX7_encode_5 rfl ?_ | refine wp_aload_nN (pc := 5) dX7_encode_5 rfl ?_
  refine wp_getR (pc := 6) dX7_encode_6 fl_LevelStoreModel_77 (by first | assumption | exact Fx.ok (by assumption) (by decide)) rfl (by first | assumption | exact Fx.ref (by assumption) rfl) ?_
  first | refine wp_aload_n (pc := 9) dX7_encode_9 rfl ?_ | refine wp_aload_nN (pc := 9) dX7_encode_9 rfl ?_
  refine wp_getI (pc := 10) dX7_encode_10 fl_LevelStoreModel_189 (by first | assumption | exact Fx.ok (by assumption) (by decide)) rfl ?_
  rw [ab_u2_s]
  first | refine wp_aload_n (pc := 13) dX7_encode_13 rfl ?_ | refine wp_aload_nN (pc := 13) dX7_encode_13 rfl ?_
  refine wp_getI (pc := 14) dX7_encode_14 fl_LevelStoreModel_159 (by first | assumption | exact Fx.ok (by assumption) (by decide)) rfl ?_
  rw [ab_u2_n _ _ (Or.inr (by decide)), hb]
  refine wp_iastore (pc := 17) dX7_encode_17 (by first | assumption | exact Fx.ok (by assumption) (by decide)) (by rw [z62]; exact in_I (by decide) (by decide)) ?_
  first | refine wp_aload_n (pc := 18) dX7_encode_18 rfl ?_ | refine wp_aload_nN (pc := 18) dX7_encode_18 rfl ?_
  refine wp_dup (pc := 19) dX7_encode_19 rfl ?_
  refine wp_getI (pc := 20) dX7_encode_20 fl_LevelStoreModel_189 (by first | assumption | exact Fx.ok (by assumption) (by decide)) rfl ?_
  rw [show (0 : Int32).toNatClampNeg = 0 by decide, ab_u2_r _ _ (by decide), ab_u2_s]
  refine wp_iconst (pc := 23) (v := 1) dX7_encode_23 (by decide) ?_
  refine wp_iadd (pc := 24) dX7_encode_24 ?_
  rw [show (0 : Int32) + 1 = nI 1 by decide]
  refine wp_putI (pc := 25) dX7_encode_25 fl_LevelStoreModel_189 (by first | assumption | exact Fx.ok (by assumption) (by decide)) rfl rfl (Or.inl rfl) ?_
  refine wp_iconst (pc := 28) (v := 0) dX7_encode_28 (by decide) ?_
  refine wp_istore_n (pc := 29) dX7_encode_29 (by decide) rfl ?_
  have hf0 : fM I (ab_u2 (ab_u2 (ab_u2 I 39 36 0) 62 0 (nI es.length)) 39 36 (nI 1)) [62] [36] := (fM.uf (by simp)).tr1 fM.push
  have hc0 : cdM (ab_u2 (ab_u2 (ab_u2 I 39 36 0) 62 0 (nI es.length)) 39 36 (nI 1)) (es.length :: bd 0 (es.take 0)) := cdM.push (cl := []) ⟨ab_u2_s _ _ _ _, fun k b q => by simp at q⟩ es.length
  refine m_enc_loop hX (I0 := I) hb ha hv _ (fun J hf hcd L hL => m_enc_154 hX _ (fun L2 hL2 => m_enc_sum hX hcd ?_ ⟨rfl, _, rfl, hf.tr1 fM.push, hcd.push _⟩ ?_ (es.length :: bd 0 es).length 0 _ _ _ (by omega) rfl rfl hL2) L hL) es.length 0 _ _ _ (by omega) rfl hf0 hc0 ⟨rfl, rfl, trivial⟩
  · simp only [enc, List.length_append, List.length_singleton] at hl; omega
  · intro b q
    rcases List.mem_cons.mp q with rfl | q
    · omega
    · exact bd_byte es 0 b q
end M12
