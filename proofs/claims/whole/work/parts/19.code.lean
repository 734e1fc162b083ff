/-! THE BYTES OF A FILE -/
def sh (v : Nat) : List Nat := if v < 128 then [v] else (128 + v % 128) :: sh (v / 128)
  termination_by v
theorem sh_lt {v : Nat} (h : v < 128) : sh v = [v] := by rw [sh, if_pos h]
theorem sh_ge {v : Nat} (h : ¬ v < 128) : sh v = (128 + v % 128) :: sh (v / 128) := by rw [sh, if_neg h]
theorem sh_len3 {v : Nat} (h : v < 2097152) : (sh v).length ≤ 3 := by
  by_cases h1 : v < 128
  · rw [sh_lt h1]; simp
  · rw [sh_ge h1]
    by_cases h2 : v / 128 < 128
    · rw [sh_lt h2]; simp
    · rw [sh_ge h2, sh_lt (by omega)]; simp
theorem sh_len2 {v : Nat} (h : v < 16384) : (sh v).length ≤ 2 := by
  by_cases h1 : v < 128
  · rw [sh_lt h1]; simp
  · rw [sh_ge h1, sh_lt (by omega)]; simp
theorem sh_byte : ∀ (v : Nat), ∀ b ∈ sh v, b < 256 := by
  intro v
  induction v using Nat.strongRecOn with
  | _ v ih =>
    intro b hb
    by_cases h1 : v < 128
    · rw [sh_lt h1] at hb
      simp at hb
      omega
    · rw [sh_ge h1] at hb
      rcases List.mem_cons.mp hb with rfl | hb
      · omega
      · exact ih (v / 128) (by omega) b hb
def fd (v : Int) : Nat := if 0 ≤ v then (2 * v).toNat else (-2 * v - 1).toNat
def encE (prev : Int) (e : En) : List Nat := sh (e.1.toInt - prev).toNat ++ (if e.2.2 = cNONE then sh (2 * e.2.1.toInt + 1).toNat else sh (2 * e.2.1.toInt).toNat ++ sh (fd e.2.2.toInt))
def bd (prev : Int) : List En → List Nat
  | [] => []
  | e :: t => encE prev e ++ bd e.1.toInt t
def lastK (prev : Int) (l : List En) : Int := match l.getLast? with
  | none => prev
  | some e => e.1.toInt
theorem bd_app (e : En) : ∀ (prev : Int) (l : List En), bd prev (l ++ [e]) = bd prev l ++ encE (lastK prev l) e
  | prev, [] => by simp [bd, lastK]
  | prev, a :: t => by
    show encE prev a ++ bd a.1.toInt (t ++ [e]) = (encE prev a ++ bd a.1.toInt t) ++ _
    rw [bd_app e a.1.toInt t, List.append_assoc]
    congr 3
    unfold lastK
    cases t with
    | nil => rfl
    | cons b t =>
      rw [List.getLast?_cons_cons]
      cases hz : (b :: t).getLast? with
      | none => simp at hz
      | some z => rfl
def enc (es : List En) : List Nat := (es.length :: bd 0 es) ++ [(es.length :: bd 0 es).sum % 251]
/-- an entry as it should be -/
def ve (e : En) : Prop := 0 ≤ e.1.toInt ∧ e.1.toInt ≤ 999 ∧ 1 ≤ e.2.1.toInt ∧ e.2.1.toInt ≤ 60000 ∧ (e.2.2 = cNONE ∨ -100000 ≤ e.2.2.toInt ∧ e.2.2.toInt ≤ 100000)
/-- keys don't fall -/
def kn (es : List En) : Prop := ∀ i a b, es[i]? = some a → es[i + 1]? = some b → a.1.toInt ≤ b.1.toInt
def vk (es : List En) : Prop := (∀ e ∈ es, ve e) ∧ kn es ∧ es.length ≤ 24
theorem encE_len {prev : Int} {e : En} (h : ve e) (h0 : 0 ≤ prev) (h1 : prev ≤ e.1.toInt) : (encE prev e).length ≤ 8 := by
  obtain ⟨a1, a2, a3, a4, a5⟩ := h
  unfold encE
  have g1 := sh_len2 (v := (e.1.toInt - prev).toNat) (by omega)
  have g2 := sh_len3 (v := (2 * e.2.1.toInt + 1).toNat) (by omega)
  have g3 := sh_len3 (v := (2 * e.2.1.toInt).toNat) (by omega)
  rw [List.length_append]
  split
  · omega
  · rename_i hne
    have hv := a5.resolve_left hne
    have g4 := sh_len3 (v := fd e.2.2.toInt) (by unfold fd; split <;> omega)
    rw [List.length_append]
    omega
theorem encE_byte {prev : Int} {e : En} : ∀ b ∈ encE prev e, b < 256 := by
  intro b hb
  unfold encE at hb
  rcases List.mem_append.mp hb with hb | hb
  · exact sh_byte _ b hb
  · split at hb
    · exact sh_byte _ b hb
    · rcases List.mem_append.mp hb with hb | hb
      · exact sh_byte _ b hb
      · exact sh_byte _ b hb
theorem lastK_take {es : List En} {t : Nat} {e : En} (hv : vk es) (he : es[t]? = some e) : 0 ≤ lastK 0 (es.take t) ∧ lastK 0 (es.take t) ≤ e.1.toInt := by
  unfold lastK
  rw [List.getLast?_take]
  by_cases h0 : t = 0
  · rw [if_pos h0]
    exact ⟨Int.le_refl _, (hv.1 e (List.mem_of_getElem? he)).1⟩
  · rw [if_neg h0]
    have hl := (List.getElem?_eq_some_iff.mp he).1
    have e1 : es[t - 1]? = some es[t - 1] := List.getElem?_eq_getElem (by omega)
    rw [e1]
    simp only [Option.some_or]
    exact ⟨(hv.1 _ (List.mem_of_getElem? e1)).1, hv.2.1 (t - 1) _ _ e1 (by rw [show t - 1 + 1 = t by omega]; exact he)⟩
theorem bd_len {es : List En} (hv : vk es) : ∀ t, t ≤ es.length → (bd 0 (es.take t)).length ≤ 8 * t := by
  intro t
  induction t with
  | zero => intro _; simp [bd]
  | succ t ih =>
    intro ht
    have e1 : es[t]? = some es[t] := List.getElem?_eq_getElem (by omega)
    rw [td_succ e1, bd_app, List.length_append]
    have := ih (by omega)
    have := encE_len (hv.1 _ (List.mem_of_getElem? e1)) (lastK_take hv e1).1 (lastK_take hv e1).2
    omega
theorem bd_byte : ∀ (es : List En) (prev : Int), ∀ b ∈ bd prev es, b < 256
  | [], _, b, hb => by simp [bd] at hb
  | e :: t, prev, b, hb => by
    rcases List.mem_append.mp hb with hb | hb
    · exact encE_byte b hb
    · exact bd_byte t _ b hb
theorem enc_len {es : List En} (hv : vk es) : (enc es).length ≤ 194 := by
  have := bd_len hv es.length (Nat.le_refl _)
  rw [List.take_length] at this
  have := hv.2.2
  simp [enc]
  omega
theorem enc_pos (es : List En) : 2 ≤ (enc es).length := by simp [enc]
def cd (I : ab_II) (cl : List Nat) : Prop := I 20 3 = nI cl.length ∧ ∀ k b, cl[k]? = some b → I 23 k = nI b
section CODE
variable {n : Nat} {S : ab_SH} {R : ab_RR} {I : ab_II} (hX : Fx n S R) {cl : List Nat}
theorem s_X0_emit (hX : Fx n S R) (hcd : cd I cl) (hl : cl.length < 194) (b : Nat) : wp 0 0 0 0 MX0_emit 0 [(0, .ref 20), (1, .int (nI b))] [] (n, S, R, I) (fun v h => v = none ∧ ∃ I', h = (n, S, R, I') ∧ ab_fr I I' [20, 23] ∧ cd I' (cl ++ [b])) := by
  have z : (S 23).2 = 194 := hX.len (by decide)
  have o23 : ab_ok n S 23 9 := hX.ok (by decide)
  have e0 : (I 20 3).toInt = cl.length := by rw [hcd.1, tI_n (by omega)]
  first | refine wp_aload_n (pc := 0) dX0_emit_0 rfl ?_ | refine wp_aload_nN (pc := 0) dX0_emit_0 rfl ?_
  refine wp_getI (pc := 1) dX0_emit_1 fl_Field_32 (by first | assumption | exact Fx.ok (by assumption) (by decide)) rfl ?_
  first | refine wp_aload_n (pc := 4) dX0_emit_4 rfl ?_ | refine wp_aload_nN (pc := 4) dX0_emit_4 rfl ?_
  refine wp_getR (pc := 5) dX0_emit_5 fl_Field_19 (by first | assumption | exact Fx.ok (by assumption) (by decide)) rfl (by first | assumption | exact Fx.ref (by assumption) rfl) ?_
  first | refine wp_alen (pc := 8) dX0_emit_8 (Or.inl (by assumption)) ?_ | refine wp_alen (pc := 8) dX0_emit_8 (Or.inr (Or.inl (by assumption))) ?_ | refine wp_alen (pc := 8) dX0_emit_8 (Or.inr (Or.inr (Or.inl (by assumption)))) ?_ | refine wp_alen (pc := 8) dX0_emit_8 (Or.inr (Or.inr (Or.inr (by assumption)))) ?_
  refine wp_icmp_ge (pc := 9) (tgt := 32) dX0_emit_9 (by decide) (fun hc => ?_) (fun hc => ?_)
  · rw [z, tI_o (by omega)] at hc; omega
  · skip
    first | refine wp_aload_n (pc := 12) dX0_emit_12 rfl ?_ | refine wp_aload_nN (pc := 12) dX0_emit_12 rfl ?_
    refine wp_getR (pc := 13) dX0_emit_13 fl_Field_19 (by first | assumption | exact Fx.ok (by assumption) (by decide)) rfl (by first | assumption | exact Fx.ref (by assumption) rfl) ?_
    first | refine wp_aload_n (pc := 16) dX0_emit_16 rfl ?_ | refine wp_aload_nN (pc := 16) dX0_emit_16 rfl ?_
    refine wp_getI (pc := 17) dX0_emit_17 fl_Field_32 (by first | assumption | exact Fx.ok (by assumption) (by decide)) rfl ?_
    refine wp_iload_n (pc := 20) dX0_emit_20 rfl ?_
    refine wp_iastore (pc := 21) dX0_emit_21 (by first | assumption | exact Fx.ok (by assumption) (by decide)) (in_I (by omega) (by rw [z]; omega)) ?_
    first | refine wp_aload_n (pc := 22) dX0_emit_22 rfl ?_ | refine wp_aload_nN (pc := 22) dX0_emit_22 rfl ?_
    refine wp_dup (pc := 23) dX0_emit_23 rfl ?_
    refine wp_getI (pc := 24) dX0_emit_24 fl_Field_32 (by first | assumption | exact Fx.ok (by assumption) (by decide)) rfl ?_
    refine wp_iconst (pc := 27) (v := 1) dX0_emit_27 (by decide) ?_
    refine wp_iadd (pc := 28) dX0_emit_28 ?_
    refine wp_putI (pc := 29) dX0_emit_29 fl_Field_32 (by first | assumption | exact Fx.ok (by assumption) (by decide)) rfl rfl (Or.inl rfl) ?_
    refine wp_retv (pc := 32) dX0_emit_32 rfl ?_
    refine ⟨rfl, _, rfl, (ab_fr.u2 (by simp)).tr1 (ab_fr.u2 (by simp)), ?_, fun k c hk => ?_⟩
    · rw [ab_u2_s, ab_u2_n _ _ (Or.inl (by decide)), hcd.1]
      simp only [List.length_append, List.length_singleton]
      exact nI_1 _
    · rw [ab_u2_n _ _ (Or.inl (by decide)), hcd.1, nI_c (by omega)]
      by_cases hkl : k < cl.length
      · rw [List.getElem?_append_left hkl] at hk
        rw [ab_u2_n _ _ (Or.inr (by omega))]
        exact hcd.2 k c hk
      · rw [List.getElem?_append_right (by omega)] at hk
        have hz : k - cl.length < 1 := (List.getElem?_eq_some_iff.mp hk).1
        have hkk : k = cl.length := by omega
        subst hkk
        simp at hk
        rw [ab_u2_s, hk]
theorem s_X0_emitShort_loop (hX : Fx n S R) (w : Int32) (post : ab_Po) (cl0 : List Nat) (v0 : Nat) (hl : cl0.length + (sh v0).length ≤ 194) {I0 : ab_II} (hpost : ∀ I', ab_fr I0 I' [20, 23] → cd I' (cl0 ++ sh v0) → post none (n, S, R, I')) :
    ∀ (d k v : Nat) (y z : Int32) (I : ab_II) (cl : List Nat), 4 = k + d → v < 128 ^ d → y = nI v → z = nI k → cl ++ sh v = cl0 ++ sh v0 → ab_fr I0 I [20, 23] → cd I cl → wp 1 21 0 0 MX0_emitShort 4 [(0, .ref 20), (1, .int w), (2, .int y), (3, .int z)] [] (n, S, R, I) post := by
  have o20 : ab_ok n S 20 1 := hX.ok (by decide)
  have hlen : ∀ (v : Nat) (cl : List Nat), cl ++ sh v = cl0 ++ sh v0 → cl.length + (sh v).length ≤ 194 := fun v cl hcl => by
    have := congrArg List.length hcl
    simp at this
    omega
  have fin : ∀ (v : Nat) (y z : Int32) (I : ab_II) (cl : List Nat), v < 128 → y = nI v → cl ++ sh v = cl0 ++ sh v0 → ab_fr I0 I [20, 23] → cd I cl → wp 1 21 0 0 MX0_emitShort 38 [(0, .ref 20), (1, .int w), (2, .int y), (3, .int z)] [] (n, S, R, I) post := by
    intro v y z I cl hv hy hcl hf hcd
    have hlen := hlen v cl hcl
    rw [sh_lt hv, List.length_singleton] at hlen
    subst hy
    first | refine wp_aload_n (pc := 38) dX0_emitShort_38 rfl ?_ | refine wp_aload_nN (pc := 38) dX0_emitShort_38 rfl ?_
    refine wp_iload_n (pc := 39) dX0_emitShort_39 rfl ?_
    refine cv_Field_59 (pc := 40) (s_X0_emit hX hcd (by omega) v) rfl dX0_emitShort_40 (by assumption) ⟨by decide, by decide, Nat.zero_le _, Nat.zero_le _⟩ (Nat.le_of_ble_eq_true rfl) (fun v h hp => ?_)
    obtain ⟨rfl, I', rfl, hf', hc'⟩ := hp
    refine wp_retv (pc := 43) dX0_emitShort_43 rfl ?_
    refine hpost I' (hf.tr1 hf') ?_
    rw [← hcl, sh_lt hv]
    exact hc'
  intro d
  induction d with
  | zero =>
    intro k v y z I cl hk hv hy hz hcl hf hcd
    have ez : z.toInt = 4 := by rw [hz, tI_n (by omega)]; omega
    refine wp_iload_n (pc := 4) dX0_emitShort_4 rfl ?_
    refine wp_iconst (pc := 5) (v := 4) dX0_emitShort_5 (by decide) ?_
    refine wp_icmp_ge (pc := 6) (tgt := 38) dX0_emitShort_6 (by decide) (fun hc => ?_) (fun hc => ?_)
    · skip
      exact fin v y z I cl (by omega) hy hcl hf hcd
    · rw [ez, tl_4] at hc; omega
  | succ d ih =>
    intro k v y z I cl hk hv hy hz hcl hf hcd
    have ez : z.toInt = k := by rw [hz, tI_n (by omega)]
    have hvb : v < 268435456 := by
      have : 128 ^ (d + 1) ≤ 128 ^ 4 := Nat.pow_le_pow_right (by omega) (by omega)
      have e4 : (128 : Nat) ^ 4 = 268435456 := by decide
      omega
    have hv2 : v / 128 < 128 ^ d := by
      rw [Nat.div_lt_iff_lt_mul (by omega)]
      rw [Nat.pow_succ] at hv
      exact hv
    have ey : y.toInt = v := by rw [hy, tI_n (by omega)]
    have t127 : (127 : Int32).toInt = 127 := by decide +kernel
    have ea : y &&& 127 = nI (v % 128) := by rw [hy]; exact pk_andN (by omega) 7 (by decide +kernel)
    have eb : (128 : Int32) + nI (v % 128) = nI (128 + v % 128) := by
      rw [show (128 : Int32) = nI 128 by decide +kernel]
      exact nI_add _ _
    have ec : y >>> ((7 : Int32) &&& 31) = nI (v / 128) := by rw [hy]; exact pk_shrN (by omega) ((7 : Int32) &&& 31) 7 (by decide +kernel)
    have hll := hlen v cl hcl
    refine wp_iload_n (pc := 4) dX0_emitShort_4 rfl ?_
    refine wp_iconst (pc := 5) (v := 4) dX0_emitShort_5 (by decide) ?_
    refine wp_icmp_ge (pc := 6) (tgt := 38) dX0_emitShort_6 (by decide) (fun hc => ?_) (fun hc => ?_)
    · rw [ez, tl_4] at hc; omega
    · skip
      refine wp_iload_n (pc := 9) dX0_emitShort_9 rfl ?_
      refine wp_bipush (pc := 10) (v := 127) dX0_emitShort_10 (by decide) ?_
      refine wp_icmp_le (pc := 12) (tgt := 38) dX0_emitShort_12 (by decide) (fun hc => ?_) (fun hc => ?_)
      · rw [ey, t127] at hc
        exact fin v y z I cl (by omega) hy hcl hf hcd
      · rw [ey, t127] at hc
        rw [sh_ge (by omega)] at hll hcl
        rw [List.length_cons] at hll
        first | refine wp_aload_n (pc := 15) dX0_emitShort_15 rfl ?_ | refine wp_aload_nN (pc := 15) dX0_emitShort_15 rfl ?_
        refine wp_sipush (pc := 16) (v := 128) dX0_emitShort_16 (by decide) ?_
        refine wp_iload_n (pc := 19) dX0_emitShort_19 rfl ?_
        refine wp_bipush (pc := 20) (v := 127) dX0_emitShort_20 (by decide) ?_
        refine wp_iand (pc := 22) dX0_emitShort_22 ?_
        rw [ea]
        refine wp_iadd (pc := 23) dX0_emitShort_23 ?_
        rw [eb]
        refine cv_Field_59 (pc := 24) (s_X0_emit hX hcd (by omega) _) rfl dX0_emitShort_24 (by assumption) ⟨by decide, by decide, Nat.zero_le _, Nat.zero_le _⟩ (Nat.le_of_ble_eq_true rfl) (fun v h hp => ?_)
        obtain ⟨rfl, I', rfl, hf', hc'⟩ := hp
        refine wp_iload_n (pc := 27) dX0_emitShort_27 rfl ?_
        refine wp_bipush (pc := 28) (v := 7) dX0_emitShort_28 (by decide) ?_
        refine wp_ishr (pc := 30) dX0_emitShort_30 ?_
        rw [ec]
        refine wp_istore_n (pc := 31) dX0_emitShort_31 (by decide) rfl ?_
        refine wp_iinc (pc := 32) dX0_emitShort_32 rfl (by decide) rfl ?_
        refine wp_goto (pc := 35) (tgt := 4) dX0_emitShort_35 (by decide) ?_
        refine wp_loc (L' := [(0, .ref 20), (1, .int w), (2, .int (nI (v / 128))), (3, .int (z + Int32.ofInt 1))]) ⟨rfl, rfl, rfl, rfl, trivial⟩ ?_
        refine ih (k + 1) (v / 128) _ _ I' _ (by omega) hv2 rfl (by rw [hz]; exact nI_i1 k) ?_ (hf.tr1 hf') hc'
        rw [← hcl, List.append_assoc]
        rfl
theorem s_X0_emitShort (hX : Fx n S R) (hcd : cd I cl) (v : Nat) (hv : v < 268435456) (hl : cl.length + (sh v).length ≤ 194) : wp 1 21 0 0 MX0_emitShort 0 [(0, .ref 20), (1, .int (nI v))] [] (n, S, R, I) (fun w h => w = none ∧ ∃ I', h = (n, S, R, I') ∧ ab_fr I I' [20, 23] ∧ cd I' (cl ++ sh v)) := by
  refine wp_iload_n (pc := 0) dX0_emitShort_0 rfl ?_
  refine wp_istore_n (pc := 1) dX0_emitShort_1 (by decide) rfl ?_
  refine wp_iconst (pc := 2) (v := 0) dX0_emitShort_2 (by decide) ?_
  refine wp_istore_n (pc := 3) dX0_emitShort_3 (by decide) rfl ?_
  refine wp_loc (L' := [(0, .ref 20), (1, .int (nI v)), (2, .int (nI v)), (3, .int 0)]) ⟨rfl, rfl, rfl, rfl, trivial⟩ ?_
  exact s_X0_emitShort_loop hX _ _ cl v hl (fun I' h1 h2 => ⟨rfl, I', rfl, h1, h2⟩) 4 0 v _ _ I cl rfl (by rw [show (128 : Nat) ^ 4 = 268435456 by decide]; exact hv) rfl rfl rfl ab_fr.rf hcd
theorem s_X0_folded (v : Int32) (hv : -100000 ≤ v.toInt ∧ v.toInt ≤ 100000) : wp 0 0 0 0 MX0_folded 0 [(0, .int v)] [] (n, S, R, I) (fun w h => h = (n, S, R, I) ∧ w = some (.int (nI (fd v.toInt)))) := by
  have tm2 : (-2 : Int32).toInt = -2 := by decide +kernel
  refine wp_iload_n (pc := 0) dX0_folded_0 rfl ?_
  refine wp_if_lt (pc := 1) (tgt := 10) dX0_folded_1 (by decide) (fun hc => ?_) (fun hc => ?_)
  · skip
    refine wp_bipush (pc := 10) (v := -2) dX0_folded_10 (by decide) ?_
    refine wp_iload_n (pc := 12) dX0_folded_12 rfl ?_
    refine wp_imul (pc := 13) dX0_folded_13 ?_
    refine wp_iconst (pc := 14) (v := 1) dX0_folded_14 (by decide) ?_
    refine wp_isub (pc := 15) dX0_folded_15 ?_
    refine wp_ret (pc := 16) dX0_folded_16 rfl (by first | trivial | exact Or.inl rfl | exact Or.inr rfl | assumption) ?_
    refine ⟨rfl, ?_⟩
    congr 2
    apply tI_N
    unfold fd
    first
    | (rw [if_pos (by omega), tI_mul (by rw [tl_2]; omega) (by rw [tl_2]; omega), tl_2]; omega)
    | (rw [if_neg (by omega), tI_sub (by rw [tI_mul (by rw [tm2]; omega) (by rw [tm2]; omega), tm2, tl_1]; omega) (by rw [tI_mul (by rw [tm2]; omega) (by rw [tm2]; omega), tm2, tl_1]; omega), tI_mul (by rw [tm2]; omega) (by rw [tm2]; omega), tm2, tl_1]; omega)
  · skip
    refine wp_iconst (pc := 4) (v := 2) dX0_folded_4 (by decide) ?_
    refine wp_iload_n (pc := 5) dX0_folded_5 rfl ?_
    refine wp_imul (pc := 6) dX0_folded_6 ?_
    refine wp_goto (pc := 7) (tgt := 16) dX0_folded_7 (by decide) ?_
    refine wp_ret (pc := 16) dX0_folded_16 rfl (by first | trivial | exact Or.inl rfl | exact Or.inr rfl | assumption) ?_
    refine ⟨rfl, ?_⟩
    congr 2
    apply tI_N
    unfold fd
    first
    | (rw [if_pos (by omega), tI_mul (by rw [tl_2]; omega) (by rw [tl_2]; omega), tl_2]; omega)
    | (rw [if_neg (by omega), tI_sub (by rw [tI_mul (by rw [tm2]; omega) (by rw [tm2]; omega), tm2, tl_1]; omega) (by rw [tI_mul (by rw [tm2]; omega) (by rw [tm2]; omega), tm2, tl_1]; omega), tI_mul (by rw [tm2]; omega) (by rw [tm2]; omega), tm2, tl_1]; omega)
theorem s_X0_sumOfCode_loop (hX : Fx n S R) (hcd : cd I cl) (hl : cl.length ≤ 194) (hb : ∀ b ∈ cl, b < 256) (post : ab_Po) (hpost : post (some (.int (nI cl.sum))) (n, S, R, I)) :
    ∀ (d t : Nat) (y m : Int32), cl.length = t + d → y = nI t → m = nI (cl.take t).sum → wp 0 0 0 0 MX0_sumOfCode 4 [(0, .ref 20), (1, .int m), (2, .int y)] [] (n, S, R, I) post := by
  have z : (S 23).2 = 194 := hX.len (by decide)
  have o23 : ab_ok n S 23 9 := hX.ok (by decide)
  have e0 : (I 20 3).toInt = cl.length := by rw [hcd.1, tI_n (by omega)]
  intro d
  induction d with
  | zero =>
    intro t y m ht hy hm
    have ey : y.toInt = t := by rw [hy, tI_n (by omega)]
    refine wp_iload_n (pc := 4) dX0_sumOfCode_4 rfl ?_
    first | refine wp_aload_n (pc := 5) dX0_sumOfCode_5 rfl ?_ | refine wp_aload_nN (pc := 5) dX0_sumOfCode_5 rfl ?_
    refine wp_getI (pc := 6) dX0_sumOfCode_6 fl_Field_32 (by first | assumption | exact Fx.ok (by assumption) (by decide)) rfl ?_
    refine wp_icmp_ge (pc := 9) (tgt := 36) dX0_sumOfCode_9 (by decide) (fun hc => ?_) (fun hc => ?_)
    · skip
      refine wp_iload_n (pc := 36) dX0_sumOfCode_36 rfl ?_
      refine wp_ret (pc := 37) dX0_sumOfCode_37 rfl (by first | trivial | exact Or.inl rfl | exact Or.inr rfl | assumption) ?_
      rw [hm, List.take_of_length_le (by omega)]; exact hpost
    · omega
  | succ d ih =>
    intro t y m ht hy hm
    have ey : y.toInt = t := by rw [hy, tI_n (by omega)]
    have eg : cl[t]? = some cl[t] := List.getElem?_eq_getElem (by omega)
    refine wp_iload_n (pc := 4) dX0_sumOfCode_4 rfl ?_
    first | refine wp_aload_n (pc := 5) dX0_sumOfCode_5 rfl ?_ | refine wp_aload_nN (pc := 5) dX0_sumOfCode_5 rfl ?_
    refine wp_getI (pc := 6) dX0_sumOfCode_6 fl_Field_32 (by first | assumption | exact Fx.ok (by assumption) (by decide)) rfl ?_
    refine wp_icmp_ge (pc := 9) (tgt := 36) dX0_sumOfCode_9 (by decide) (fun hc => ?_) (fun hc => ?_)
    · omega
    · skip
      refine wp_iload_n (pc := 12) dX0_sumOfCode_12 rfl ?_
      first | refine wp_aload_n (pc := 13) dX0_sumOfCode_13 rfl ?_ | refine wp_aload_nN (pc := 13) dX0_sumOfCode_13 rfl ?_
      refine wp_getR (pc := 14) dX0_sumOfCode_14 fl_Field_19 (by first | assumption | exact Fx.ok (by assumption) (by decide)) rfl (by first | assumption | exact Fx.ref (by assumption) rfl) ?_
      first | refine wp_alen (pc := 17) dX0_sumOfCode_17 (Or.inl (by assumption)) ?_ | refine wp_alen (pc := 17) dX0_sumOfCode_17 (Or.inr (Or.inl (by assumption))) ?_ | refine wp_alen (pc := 17) dX0_sumOfCode_17 (Or.inr (Or.inr (Or.inl (by assumption)))) ?_ | refine wp_alen (pc := 17) dX0_sumOfCode_17 (Or.inr (Or.inr (Or.inr (by assumption)))) ?_
      refine wp_icmp_ge (pc := 18) (tgt := 36) dX0_sumOfCode_18 (by decide) (fun hc => ?_) (fun hc => ?_)
      · rw [z, tI_o (by omega)] at hc; omega
      · skip
        refine wp_iload_n (pc := 21) dX0_sumOfCode_21 rfl ?_
        first | refine wp_aload_n (pc := 22) dX0_sumOfCode_22 rfl ?_ | refine wp_aload_nN (pc := 22) dX0_sumOfCode_22 rfl ?_
        refine wp_getR (pc := 23) dX0_sumOfCode_23 fl_Field_19 (by first | assumption | exact Fx.ok (by assumption) (by decide)) rfl (by first | assumption | exact Fx.ref (by assumption) rfl) ?_
        refine wp_iload_n (pc := 26) dX0_sumOfCode_26 rfl ?_
        refine wp_iaload (pc := 27) dX0_sumOfCode_27 (by first | assumption | exact Fx.ok (by assumption) (by decide)) (in_I (by omega) (by rw [z]; omega)) ?_
        refine wp_iadd (pc := 28) dX0_sumOfCode_28 ?_
        refine wp_istore_n (pc := 29) dX0_sumOfCode_29 (by decide) rfl ?_
        refine wp_iinc (pc := 30) dX0_sumOfCode_30 rfl (by decide) rfl ?_
        refine wp_goto (pc := 33) (tgt := 4) dX0_sumOfCode_33 (by decide) ?_
        refine wp_loc (L' := [(0, .ref 20), (1, .int (m + I 23 y.toNatClampNeg)), (2, .int (y + Int32.ofInt 1))]) ⟨rfl, rfl, rfl, trivial⟩ ?_
        refine ih (t + 1) _ _ (by omega) (by rw [hy]; exact nI_i1 t) ?_
        rw [td_succ eg, List.sum_append, tI_c, ey, Int.toNat_natCast, hcd.2 t _ eg, hm, nI_add]
        simp
theorem s_X0_sumOfCode (hX : Fx n S R) (hcd : cd I cl) (hl : cl.length ≤ 194) (hb : ∀ b ∈ cl, b < 256) : wp 0 0 0 0 MX0_sumOfCode 0 [(0, .ref 20)] [] (n, S, R, I) (fun w h => h = (n, S, R, I) ∧ w = some (.int (nI cl.sum))) := by
  refine wp_iconst (pc := 0) (v := 0) dX0_sumOfCode_0 (by decide) ?_
  refine wp_istore_n (pc := 1) dX0_sumOfCode_1 (by decide) rfl ?_
  refine wp_iconst (pc := 2) (v := 0) dX0_sumOfCode_2 (by decide) ?_
  refine wp_istore_n (pc := 3) dX0_sumOfCode_3 (by decide) rfl ?_
  refine wp_loc (L' := [(0, .ref 20), (1, .int 0), (2, .int 0)]) ⟨rfl, rfl, rfl, trivial⟩ ?_
  exact s_X0_sumOfCode_loop hX hcd hl hb _ ⟨rfl, rfl⟩ cl.length 0 _ _ (by omega) rfl rfl
end CODE
