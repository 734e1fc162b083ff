/-! THE REFERENCE: what is left out -/
theorem bit01 {x : Int32} {p : Prop} (h : bit x p) : x = 0 ∨ x = 1 := h.elim (fun q => Or.inr q.1) (fun q => Or.inl q.1)
theorem bit_t {x : Int32} {p : Prop} (h : bit x p) (hc : x.toInt ≠ 0) : p := h.elim (fun q => q.2) (fun q => absurd (by rw [q.1]; rfl) hc)
theorem bit_f {x : Int32} {p : Prop} (h : bit x p) (hc : x.toInt = 0) : ¬ p := h.elim (fun q => by rw [q.1] at hc; exact absurd hc (by decide)) (fun q => q.2)
theorem bit_congr {x : Int32} {p q : Prop} (h : bit x p) (e : p ↔ q) : bit x q := h.elim (fun z => Or.inl ⟨z.1, e.mp z.2⟩) (fun z => Or.inr ⟨z.1, fun w => z.2 (e.mpr w)⟩)
theorem bit_1 {p : Prop} (h : p) : bit 1 p := Or.inl ⟨rfl, h⟩
theorem bit_0 {p : Prop} (h : ¬ p) : bit 0 p := Or.inr ⟨rfl, h⟩
section M11
variable {σ : St} {n : Nat} {S : ab_SH} {R : ab_RR} {I : ab_II} {SL : Nat → List Nat}
def unW (f : Nat → En) (V : Nat → Int32) (k t : Nat) : Prop := ∀ w, w < t → ¬ ((f k).2.1.toInt ≤ (V w).toInt ∧ (V w).toInt < (f (k - 1)).2.1.toInt)
theorem m_un_loop (hX : Fx n S R) {src : List En} {V : Nat → Int32} (hs : mSr I src) (hV : ∀ k, k < 3 → I 58 k = V k) (hl : src.length ≤ 1200) {k : Nat} (hk : k < src.length) (hk0 : k ≠ 0) (post : ab_Po) (hpost : ∀ x, bit x (unW (lfn src) V k 3) → post (some (.int x)) (n, S, R, I)) :
    ∀ (d t : Nat) (y x : Int32) (L : List (Nat × Value)), 3 = t + d → y = nI t → bit x (unW (lfn src) V k t) → ab_sub L [(0, .ref 39), (1, .int (nI k)), (2, .int x), (3, .int y)] → wp 0 0 0 0 MX7_isUnseen 27 L [] (n, S, R, I) post := by
  have z58 : (S 58).2 = 3 := hX.len (by decide)
  have z55 : (S 55).2 = 1200 := hX.len (by decide)
  have ek : (nI k).toInt = k := tI_n (by omega)
  have ck : (nI k).toNatClampNeg = k := nI_c (by omega)
  have ek1 : nI k - 1 = nI (k - 1) := pk_sub (b := 1) (by omega)
  have ek2 : (nI (k - 1)).toInt = ((k - 1 : Nat) : Int) := tI_n (by omega)
  have ck2 : (nI (k - 1)).toNatClampNeg = k - 1 := nI_c (by omega)
  have a1 := (hs.2.at (j := k) hk).2.1
  have a2 := (hs.2.at (j := k - 1) (by omega)).2.1
  rw [Nat.zero_add] at a1 a2
  intro d
  induction d with
  | zero =>
    intro t y x L ht hy hx hL0
    refine wp_loc hL0 ?_
    have ey : y.toInt = t := by rw [hy, tI_n (by omega)]
    have h01 := bit01 hx
    refine wp_iload_n (pc := 27) dX7_isUnseen_27 rfl ?_
    refine wp_iconst (pc := 28) (v := 3) dX7_isUnseen_28 (by decide) ?_
    refine wp_icmp_ge (pc := 29) (tgt := 80) dX7_isUnseen_29 (by decide) (fun hc => ?_) (fun hc => ?_)
    · skip
      refine wp_iload_n (pc := 80) dX7_isUnseen_80 rfl ?_
      refine wp_ret (pc := 81) dX7_isUnseen_81 rfl (by first | trivial | exact Or.inl rfl | exact Or.inr rfl | assumption) ?_
      rw [show t = 3 by omega] at hx; exact hpost x hx
    · rw [tl_3] at hc; omega
  | succ d ih =>
    intro t y x L ht hy hx hL0
    refine wp_loc hL0 ?_
    have ey : y.toInt = t := by rw [hy, tI_n (by omega)]
    have cy : y.toNatClampNeg = t := by rw [tI_c]; omega
    have hv := hV t (by omega)
    have nxt : ∀ x', bit x' (unW (lfn src) V k (t + 1)) → ∀ L, ab_sub L [(0, .ref 39), (1, .int (nI k)), (3, .int y)] → wp 0 0 0 0 MX7_isUnseen 73 L [.int x'] (n, S, R, I) post := by
      intro x' hx' L hL
      refine wp_loc hL ?_
      refine wp_istore_n (pc := 73) dX7_isUnseen_73 (by decide) rfl ?_
      refine wp_iinc (pc := 74) dX7_isUnseen_74 rfl (by decide) rfl ?_
      refine wp_goto (pc := 77) (tgt := 27) dX7_isUnseen_77 (by decide) ?_
      exact ih (t + 1) _ x' _ (by omega) (by rw [hy]; exact nI_i1 t) hx' ⟨rfl, rfl, rfl, rfl, trivial⟩
    have up : unW (lfn src) V k (t + 1) ↔ unW (lfn src) V k t ∧ ¬ ((lfn src k).2.1.toInt ≤ (V t).toInt ∧ (V t).toInt < (lfn src (k - 1)).2.1.toInt) := by
      constructor
      · intro h
        exact ⟨fun w hw => h w (by omega), h t (by omega)⟩
      · intro h w hw
        by_cases q : w = t
        · rw [q]; exact h.2
        · exact h.1 w (by omega)
    refine wp_iload_n (pc := 27) dX7_isUnseen_27 rfl ?_
    refine wp_iconst (pc := 28) (v := 3) dX7_isUnseen_28 (by decide) ?_
    refine wp_icmp_ge (pc := 29) (tgt := 80) dX7_isUnseen_29 (by decide) (fun hc => ?_) (fun hc => ?_)
    · rw [tl_3] at hc; omega
    · skip
      refine wp_iload_n (pc := 32) dX7_isUnseen_32 rfl ?_
      refine wp_if_eq (pc := 33) (tgt := 72) dX7_isUnseen_33 (by decide) (fun hc => ?_) (fun hc => ?_)
      · have hn := bit_f hx hc
        have hres : bit 0 (unW (lfn src) V k (t + 1)) := bit_0 (fun q => hn (up.mp q).1)
        refine wp_iconst (pc := 72) (v := 0) dX7_isUnseen_72 (by decide) ?_
        exact nxt _ hres _ ⟨rfl, rfl, rfl, trivial⟩
      · have hy1 := bit_t hx hc
        first | refine wp_aload_n (pc := 36) dX7_isUnseen_36 rfl ?_ | refine wp_aload_nN (pc := 36) dX7_isUnseen_36 rfl ?_
        refine wp_getR (pc := 37) dX7_isUnseen_37 fl_LevelStoreModel_65 (by first | assumption | exact Fx.ok (by assumption) (by decide)) rfl (by first | assumption | exact Fx.ref (by assumption) rfl) ?_
        refine wp_iload_n (pc := 40) dX7_isUnseen_40 rfl ?_
        refine wp_iaload (pc := 41) dX7_isUnseen_41 (by first | assumption | exact Fx.ok (by assumption) (by decide)) (in_I (by omega) (by rw [z58]; omega)) ?_
        rw [cy, hv]
        first | refine wp_aload_n (pc := 42) dX7_isUnseen_42 rfl ?_ | refine wp_aload_nN (pc := 42) dX7_isUnseen_42 rfl ?_
        refine wp_getR (pc := 43) dX7_isUnseen_43 fl_LevelStoreModel_55 (by first | assumption | exact Fx.ok (by assumption) (by decide)) rfl (by first | assumption | exact Fx.ref (by assumption) rfl) ?_
        refine wp_iload_n (pc := 46) dX7_isUnseen_46 rfl ?_
        refine wp_iaload (pc := 47) dX7_isUnseen_47 (by first | assumption | exact Fx.ok (by assumption) (by decide)) (in_I (by omega) (by rw [z55]; omega)) ?_
        rw [ck, a1]
        refine wp_icmp_lt (pc := 48) (tgt := 68) dX7_isUnseen_48 (by decide) (fun hc => ?_) (fun hc => ?_)
        · have hres : bit 1 (unW (lfn src) V k (t + 1)) := bit_1 (up.mpr ⟨hy1, fun q => by omega⟩)
          refine wp_iconst (pc := 68) (v := 1) dX7_isUnseen_68 (by decide) ?_
          refine wp_goto (pc := 69) (tgt := 73) dX7_isUnseen_69 (by decide) ?_
          exact nxt _ hres _ ⟨rfl, rfl, rfl, trivial⟩
        · skip
          first | refine wp_aload_n (pc := 51) dX7_isUnseen_51 rfl ?_ | refine wp_aload_nN (pc := 51) dX7_isUnseen_51 rfl ?_
          refine wp_getR (pc := 52) dX7_isUnseen_52 fl_LevelStoreModel_65 (by first | assumption | exact Fx.ok (by assumption) (by decide)) rfl (by first | assumption | exact Fx.ref (by assumption) rfl) ?_
          refine wp_iload_n (pc := 55) dX7_isUnseen_55 rfl ?_
          refine wp_iaload (pc := 56) dX7_isUnseen_56 (by first | assumption | exact Fx.ok (by assumption) (by decide)) (in_I (by omega) (by rw [z58]; omega)) ?_
          rw [cy, hv]
          first | refine wp_aload_n (pc := 57) dX7_isUnseen_57 rfl ?_ | refine wp_aload_nN (pc := 57) dX7_isUnseen_57 rfl ?_
          refine wp_getR (pc := 58) dX7_isUnseen_58 fl_LevelStoreModel_55 (by first | assumption | exact Fx.ok (by assumption) (by decide)) rfl (by first | assumption | exact Fx.ref (by assumption) rfl) ?_
          refine wp_iload_n (pc := 61) dX7_isUnseen_61 rfl ?_
          refine wp_iconst (pc := 62) (v := 1) dX7_isUnseen_62 (by decide) ?_
          refine wp_isub (pc := 63) dX7_isUnseen_63 ?_
          rw [ek1]
          refine wp_iaload (pc := 64) dX7_isUnseen_64 (by first | assumption | exact Fx.ok (by assumption) (by decide)) (in_I (by omega) (by rw [z55]; omega)) ?_
          rw [ck2, a2]
          refine wp_icmp_lt (pc := 65) (tgt := 72) dX7_isUnseen_65 (by decide) (fun hc => ?_) (fun hc => ?_)
          · have hres : bit 0 (unW (lfn src) V k (t + 1)) := bit_0 (fun q => (up.mp q).2 (by omega))
            refine wp_iconst (pc := 72) (v := 0) dX7_isUnseen_72 (by decide) ?_
            exact nxt _ hres _ ⟨rfl, rfl, rfl, trivial⟩
          · have hres : bit 1 (unW (lfn src) V k (t + 1)) := bit_1 (up.mpr ⟨hy1, fun q => by omega⟩)
            refine wp_iconst (pc := 68) (v := 1) dX7_isUnseen_68 (by decide) ?_
            refine wp_goto (pc := 69) (tgt := 73) dX7_isUnseen_69 (by decide) ?_
            exact nxt _ hres _ ⟨rfl, rfl, rfl, trivial⟩
theorem unW3 {f : Nat → En} {V : Nat → Int32} {k : Nat} : unW f V k 3 ↔ ¬ seenK f V k := by
  unfold unW seenK
  constructor
  · intro h q
    rcases q with q | q | q
    · exact h 0 (by omega) q
    · exact h 1 (by omega) q
    · exact h 2 (by omega) q
  · intro h w hw q
    rcases (show w = 0 ∨ w = 1 ∨ w = 2 by omega) with rfl | rfl | rfl
    · exact h (Or.inl q)
    · exact h (Or.inr (Or.inl q))
    · exact h (Or.inr (Or.inr q))
theorem m_isUnseen (hX : Fx n S R) {src : List En} {V : Nat → Int32} (hs : mSr I src) (hV : ∀ k, k < 3 → I 58 k = V k) (hl : src.length ≤ 1200) {k : Nat} (hk : k < src.length) : wp 0 0 0 0 MX7_isUnseen 0 [(0, .ref 39), (1, .int (nI k))] [] (n, S, R, I) (fun v h => h = (n, S, R, I) ∧ ∃ x, v = some (.int x) ∧ bit x (unK (lfn src) V k)) := by
  have z54 : (S 54).2 = 1200 := hX.len (by decide)
  have ek : (nI k).toInt = k := tI_n (by omega)
  have ck : (nI k).toNatClampNeg = k := nI_c (by omega)
  have a1 := (hs.2.at (j := k) hk).1
  rw [Nat.zero_add] at a1
  by_cases h0 : k = 0
  · skip
    refine wp_iload_n (pc := 0) dX7_isUnseen_0 rfl ?_
    refine wp_if_eq (pc := 1) (tgt := 21) dX7_isUnseen_1 (by decide) (fun hc => ?_) (fun hc => ?_)
    · skip
      refine wp_iconst (pc := 21) (v := 0) dX7_isUnseen_21 (by decide) ?_
      refine wp_ret (pc := 22) dX7_isUnseen_22 rfl (by first | trivial | exact Or.inl rfl | exact Or.inr rfl | assumption) ?_
      exact ⟨rfl, 0, rfl, bit_0 (fun q => q.1 (Or.inl h0))⟩
    · omega
  · have ek1 : nI k - 1 = nI (k - 1) := pk_sub (b := 1) (by omega)
    have ek2 : (nI (k - 1)).toInt = ((k - 1 : Nat) : Int) := tI_n (by omega)
    have ck2 : (nI (k - 1)).toNatClampNeg = k - 1 := nI_c (by omega)
    have a2 := (hs.2.at (j := k - 1) (by omega)).1
    rw [Nat.zero_add] at a2
    refine wp_iload_n (pc := 0) dX7_isUnseen_0 rfl ?_
    refine wp_if_eq (pc := 1) (tgt := 21) dX7_isUnseen_1 (by decide) (fun hc => ?_) (fun hc => ?_)
    · omega
    · skip
      first | refine wp_aload_n (pc := 4) dX7_isUnseen_4 rfl ?_ | refine wp_aload_nN (pc := 4) dX7_isUnseen_4 rfl ?_
      refine wp_getR (pc := 5) dX7_isUnseen_5 fl_LevelStoreModel_52 (by first | assumption | exact Fx.ok (by assumption) (by decide)) rfl (by first | assumption | exact Fx.ref (by assumption) rfl) ?_
      refine wp_iload_n (pc := 8) dX7_isUnseen_8 rfl ?_
      refine wp_iconst (pc := 9) (v := 1) dX7_isUnseen_9 (by decide) ?_
      refine wp_isub (pc := 10) dX7_isUnseen_10 ?_
      rw [ek1]
      refine wp_iaload (pc := 11) dX7_isUnseen_11 (by first | assumption | exact Fx.ok (by assumption) (by decide)) (in_I (by omega) (by rw [z54]; omega)) ?_
      rw [ck2, a2]
      first | refine wp_aload_n (pc := 12) dX7_isUnseen_12 rfl ?_ | refine wp_aload_nN (pc := 12) dX7_isUnseen_12 rfl ?_
      refine wp_getR (pc := 13) dX7_isUnseen_13 fl_LevelStoreModel_52 (by first | assumption | exact Fx.ok (by assumption) (by decide)) rfl (by first | assumption | exact Fx.ref (by assumption) rfl) ?_
      refine wp_iload_n (pc := 16) dX7_isUnseen_16 rfl ?_
      refine wp_iaload (pc := 17) dX7_isUnseen_17 (by first | assumption | exact Fx.ok (by assumption) (by decide)) (in_I (by omega) (by rw [z54]; omega)) ?_
      rw [ck, a1]
      refine wp_icmp_eq (pc := 18) (tgt := 23) dX7_isUnseen_18 (by decide) (fun hc => ?_) (fun hc => ?_)
      · skip
        refine wp_iconst (pc := 23) (v := 1) dX7_isUnseen_23 (by decide) ?_
        refine wp_istore_n (pc := 24) dX7_isUnseen_24 (by decide) rfl ?_
        refine wp_iconst (pc := 25) (v := 0) dX7_isUnseen_25 (by decide) ?_
        refine wp_istore_n (pc := 26) dX7_isUnseen_26 (by decide) rfl ?_
        exact m_un_loop hX hs hV hl hk h0 _ (fun x hx => ⟨rfl, x, rfl, bit_congr hx ⟨fun q => ⟨fun z => z.elim h0 (fun w => w hc), unW3.mp q⟩, fun q => unW3.mpr q.2⟩⟩) 3 0 _ _ _ rfl rfl (bit_1 (fun w hw => by omega)) ⟨rfl, rfl, rfl, rfl, trivial⟩
      · skip
        refine wp_iconst (pc := 21) (v := 0) dX7_isUnseen_21 (by decide) ?_
        refine wp_ret (pc := 22) dX7_isUnseen_22 rfl (by first | trivial | exact Or.inl rfl | exact Or.inr rfl | assumption) ?_
        exact ⟨rfl, 0, rfl, bit_0 (fun q => q.1 (Or.inr hc))⟩
/-- so far nothing behind it is covered -/
def loW (f : Nat → En) (V : Nat → Int32) (t3 : Prop) (k j : Nat) : Prop := t3 ∧ gvK f k ∧ ∀ i, k < i → i < j → unK f V i ∨ gvK f i
theorem m_lo_loop (hX : Fx n S R) {src : List En} {V : Nat → Int32} (hs : mSr I src) (hV : ∀ k, k < 3 → I 58 k = V k) (hl : src.length ≤ 1200) (t3 : Prop) {k : Nat} (hk : k < src.length) (post : ab_Po) (hpost : ∀ x, bit x (t3 ∧ gvK (lfn src) k ∧ ¬ cvK (lfn src) V src.length k) → post (some (.int x)) (n, S, R, I)) :
    ∀ (d j : Nat) (y x : Int32) (L : List (Nat × Value)), src.length = j + d → k < j → y = nI j → (∀ i, k < i → i < j → (lfn src i).1.toInt = (lfn src k).1.toInt) → bit x (loW (lfn src) V t3 k j) → ab_sub L [(0, .ref 39), (1, .int (nI k)), (2, .int x), (3, .int y)] → wp 1 23 0 0 MX7_isLeftOut 39 L [] (n, S, R, I) post := by
  have z54 : (S 54).2 = 1200 := hX.len (by decide)
  have z56 : (S 56).2 = 1200 := hX.len (by decide)
  have ek : (nI k).toInt = k := tI_n (by omega)
  have ck : (nI k).toNatClampNeg = k := nI_c (by omega)
  have e22 : (I 39 22).toInt = src.length := by rw [hs.1, tI_n (by omega)]
  have a1 := (hs.2.at (j := k) hk).1
  rw [Nat.zero_add] at a1
  have fin : ∀ (j : Nat) (x : Int32), k < j → j ≤ src.length → (∀ i, k < i → i < j → (lfn src i).1.toInt = (lfn src k).1.toInt) → bit x (loW (lfn src) V t3 k j) → (x.toInt ≠ 0 → j < src.length → (lfn src j).1.toInt ≠ (lfn src k).1.toInt) → bit x (t3 ∧ gvK (lfn src) k ∧ ¬ cvK (lfn src) V src.length k) := by
    intro j x hkj hjs hkeys hx hex
    rcases hx with ⟨rfl, h1, h2, h3⟩ | ⟨rfl, hn⟩
    · refine bit_1 ⟨h1, h2, ?_⟩
      rintro ⟨j', c1, c2, c3, c4, c5⟩
      by_cases q : j' < j
      · exact (h3 j' c1 q).elim c4 c5
      · exact hex (by decide) (by omega) (c3 j (by omega) (by omega))
    · refine bit_0 (fun q => hn ⟨q.1, q.2.1, fun i hi1 hi2 => ?_⟩)
      by_cases u : unK (lfn src) V i
      · exact Or.inl u
      · by_cases g : gvK (lfn src) i
        · exact Or.inr g
        · exact absurd ⟨i, hi1, by omega, fun i' g1 g2 => hkeys i' g1 (by omega), u, g⟩ q.2.2
  intro d
  induction d with
  | zero =>
    intro j y x L hj hkj hy hkeys hx hL0
    refine wp_loc hL0 ?_
    have ey : y.toInt = j := by rw [hy, tI_n (by omega)]
    have h01 := bit01 hx
    refine wp_iload_n (pc := 39) dX7_isLeftOut_39 rfl ?_
    first | refine wp_aload_n (pc := 40) dX7_isLeftOut_40 rfl ?_ | refine wp_aload_nN (pc := 40) dX7_isLeftOut_40 rfl ?_
    refine wp_getI (pc := 41) dX7_isLeftOut_41 fl_LevelStoreModel_140 (by first | assumption | exact Fx.ok (by assumption) (by decide)) rfl ?_
    refine wp_icmp_ge (pc := 44) (tgt := 97) dX7_isLeftOut_44 (by decide) (fun hc => ?_) (fun hc => ?_)
    · skip
      refine wp_iload_n (pc := 97) dX7_isLeftOut_97 rfl ?_
      refine wp_ret (pc := 98) dX7_isLeftOut_98 rfl (by first | trivial | exact Or.inl rfl | exact Or.inr rfl | assumption) ?_
      exact hpost x (fin j x hkj (by omega) hkeys hx (fun _ q => by omega))
    · omega
  | succ d ih =>
    intro j y x L hj hkj hy hkeys hx hL0
    refine wp_loc hL0 ?_
    subst hy
    have ey : (nI j).toInt = j := tI_n (by omega)
    have cy : (nI j).toNatClampNeg = j := nI_c (by omega)
    have h01 := bit01 hx
    have b1 := (hs.2.at (j := j) (by omega)).1
    have b3 := (hs.2.at (j := j) (by omega)).2.2
    rw [Nat.zero_add] at b1 b3
    have nxt : (lfn src j).1.toInt = (lfn src k).1.toInt → ∀ x', bit x' (loW (lfn src) V t3 k (j + 1)) → ∀ L, ab_sub L [(0, .ref 39), (1, .int (nI k)), (3, .int (nI j))] → wp 1 23 0 0 MX7_isLeftOut 90 L [.int x'] (n, S, R, I) post := by
      intro hkey x' hx' L hL
      refine wp_loc hL ?_
      refine wp_istore_n (pc := 90) dX7_isLeftOut_90 (by decide) rfl ?_
      refine wp_iinc (pc := 91) dX7_isLeftOut_91 rfl (by decide) rfl ?_
      refine wp_goto (pc := 94) (tgt := 39) dX7_isLeftOut_94 (by decide) ?_
      exact ih (j + 1) _ x' _ (by omega) (by omega) (nI_i1 j) (fun i q1 q2 => by by_cases q : i = j; (rw [q]; exact hkey); exact hkeys i q1 (by omega)) hx' ⟨rfl, rfl, rfl, rfl, trivial⟩
    have up : loW (lfn src) V t3 k (j + 1) ↔ loW (lfn src) V t3 k j ∧ (unK (lfn src) V j ∨ gvK (lfn src) j) := by
      constructor
      · rintro ⟨q1, q2, q3⟩
        exact ⟨⟨q1, q2, fun i r1 r2 => q3 i r1 (by omega)⟩, q3 j hkj (by omega)⟩
      · rintro ⟨⟨q1, q2, q3⟩, q4⟩
        refine ⟨q1, q2, fun i r1 r2 => ?_⟩
        by_cases q : i = j
        · rw [q]; exact q4
        · exact q3 i r1 (by omega)
    refine wp_iload_n (pc := 39) dX7_isLeftOut_39 rfl ?_
    first | refine wp_aload_n (pc := 40) dX7_isLeftOut_40 rfl ?_ | refine wp_aload_nN (pc := 40) dX7_isLeftOut_40 rfl ?_
    refine wp_getI (pc := 41) dX7_isLeftOut_41 fl_LevelStoreModel_140 (by first | assumption | exact Fx.ok (by assumption) (by decide)) rfl ?_
    refine wp_icmp_ge (pc := 44) (tgt := 97) dX7_isLeftOut_44 (by decide) (fun hc => ?_) (fun hc => ?_)
    · omega
    · skip
      first | refine wp_aload_n (pc := 47) dX7_isLeftOut_47 rfl ?_ | refine wp_aload_nN (pc := 47) dX7_isLeftOut_47 rfl ?_
      refine wp_getR (pc := 48) dX7_isLeftOut_48 fl_LevelStoreModel_52 (by first | assumption | exact Fx.ok (by assumption) (by decide)) rfl (by first | assumption | exact Fx.ref (by assumption) rfl) ?_
      refine wp_iload_n (pc := 51) dX7_isLeftOut_51 rfl ?_
      refine wp_iaload (pc := 52) dX7_isLeftOut_52 (by first | assumption | exact Fx.ok (by assumption) (by decide)) (in_I (by omega) (by rw [z54]; omega)) ?_
      rw [cy, b1]
      first | refine wp_aload_n (pc := 53) dX7_isLeftOut_53 rfl ?_ | refine wp_aload_nN (pc := 53) dX7_isLeftOut_53 rfl ?_
      refine wp_getR (pc := 54) dX7_isLeftOut_54 fl_LevelStoreModel_52 (by first | assumption | exact Fx.ok (by assumption) (by decide)) rfl (by first | assumption | exact Fx.ref (by assumption) rfl) ?_
      refine wp_iload_n (pc := 57) dX7_isLeftOut_57 rfl ?_
      refine wp_iaload (pc := 58) dX7_isLeftOut_58 (by first | assumption | exact Fx.ok (by assumption) (by decide)) (in_I (by omega) (by rw [z54]; omega)) ?_
      rw [ck, a1]
      refine wp_icmp_ne (pc := 59) (tgt := 97) dX7_isLeftOut_59 (by decide) (fun hc => ?_) (fun hc => ?_)
      · have hres := fin j x hkj (by omega) hkeys hx (fun _ _ => hc)
        refine wp_iload_n (pc := 97) dX7_isLeftOut_97 rfl ?_
        refine wp_ret (pc := 98) dX7_isLeftOut_98 rfl (by first | trivial | exact Or.inl rfl | exact Or.inr rfl | assumption) ?_
        exact hpost x hres
      · have hkey := hc
        refine wp_iload_n (pc := 62) dX7_isLeftOut_62 rfl ?_
        refine wp_if_eq (pc := 63) (tgt := 97) dX7_isLeftOut_63 (by decide) (fun hc => ?_) (fun hc => ?_)
        · have hres := fin j x hkj (by omega) hkeys hx (fun q _ => absurd hc q)
          refine wp_iload_n (pc := 97) dX7_isLeftOut_97 rfl ?_
          refine wp_ret (pc := 98) dX7_isLeftOut_98 rfl (by first | trivial | exact Or.inl rfl | exact Or.inr rfl | assumption) ?_
          exact hpost x hres
        · have hx1 := bit_t hx hc
          first | refine wp_aload_n (pc := 66) dX7_isLeftOut_66 rfl ?_ | refine wp_aload_nN (pc := 66) dX7_isLeftOut_66 rfl ?_
          refine wp_iload_n (pc := 67) dX7_isLeftOut_67 rfl ?_
          refine cv_LevelStoreModel_186 (pc := 68) (m_isUnseen hX hs hV hl (k := j) (by omega)) rfl dX7_isLeftOut_68 (by first | assumption | exact Fx.ok (by assumption) (by decide)) ⟨by decide, by decide, Nat.zero_le _, Nat.zero_le _⟩ (Nat.le_of_ble_eq_true rfl) (fun v h hp => ?_)
          obtain ⟨rfl, xu, rfl, hxu⟩ := hp
          refine wp_if_ne (pc := 71) (tgt := 85) dX7_isLeftOut_71 (by decide) (fun hc => ?_) (fun hc => ?_)
          · have hb := bit_t hxu hc
            have hres : bit 1 (loW (lfn src) V t3 k (j + 1)) := bit_1 (up.mpr ⟨hx1, Or.inl hb⟩)
            refine wp_iconst (pc := 85) (v := 1) dX7_isLeftOut_85 (by decide) ?_
            refine wp_goto (pc := 86) (tgt := 90) dX7_isLeftOut_86 (by decide) ?_
            exact nxt hkey _ hres _ ⟨rfl, rfl, rfl, trivial⟩
          · have hb := bit_f hxu hc
            first | refine wp_aload_n (pc := 74) dX7_isLeftOut_74 rfl ?_ | refine wp_aload_nN (pc := 74) dX7_isLeftOut_74 rfl ?_
            refine wp_getR (pc := 75) dX7_isLeftOut_75 fl_LevelStoreModel_58 (by first | assumption | exact Fx.ok (by assumption) (by decide)) rfl (by first | assumption | exact Fx.ref (by assumption) rfl) ?_
            refine wp_iload_n (pc := 78) dX7_isLeftOut_78 rfl ?_
            refine wp_iaload (pc := 79) dX7_isLeftOut_79 (by first | assumption | exact Fx.ok (by assumption) (by decide)) (in_I (by omega) (by rw [z56]; omega)) ?_
            rw [cy, b3]
            refine wp_ldc (pc := 80) (v := -1000009) dX7_isLeftOut_80 cn_LevelStoreModel_116 ?_
            refine wp_icmp_ne (pc := 82) (tgt := 89) dX7_isLeftOut_82 (by decide) (fun hc => ?_) (fun hc => ?_)
            · have hres : bit 0 (loW (lfn src) V t3 k (j + 1)) := bit_0 (fun q => (up.mp q).2.elim hb (fun z => hc (by rw [z])))
              refine wp_iconst (pc := 89) (v := 0) dX7_isLeftOut_89 (by decide) ?_
              exact nxt hkey _ hres _ ⟨rfl, rfl, rfl, trivial⟩
            · have hres : bit 1 (loW (lfn src) V t3 k (j + 1)) := bit_1 (up.mpr ⟨hx1, Or.inr (tI_eq hc)⟩)
              refine wp_iconst (pc := 85) (v := 1) dX7_isLeftOut_85 (by decide) ?_
              refine wp_goto (pc := 86) (tgt := 90) dX7_isLeftOut_86 (by decide) ?_
              exact nxt hkey _ hres _ ⟨rfl, rfl, rfl, trivial⟩
theorem m_isLeftOut (hX : Fx n S R) {src : List En} {V : Nat → Int32} (hs : mSr I src) (hV : ∀ k, k < 3 → I 58 k = V k) (hl : src.length ≤ 1200) {tgt : Nat} (ht : tgt ≤ 3) (h21 : I 39 21 = nI tgt - 1) {k : Nat} (hk : k < src.length) : wp 1 23 0 0 MX7_isLeftOut 0 [(0, .ref 39), (1, .int (nI k))] [] (n, S, R, I) (fun v h => h = (n, S, R, I) ∧ ∃ x, v = some (.int x) ∧ bit x (loK (lfn src) V src.length (tgt = 3) k)) := by
  have z56 : (S 56).2 = 1200 := hX.len (by decide)
  have ek : (nI k).toInt = k := tI_n (by omega)
  have ck : (nI k).toNatClampNeg = k := nI_c (by omega)
  have e21 : (I 39 21).toInt = (tgt : Int) - 1 := by rw [h21, tI_sub (by rw [tI_n (by omega), tl_1]; omega) (by rw [tI_n (by omega), tl_1]; omega), tI_n (by omega), tl_1]
  have a3 := (hs.2.at (j := k) hk).2.2
  rw [Nat.zero_add] at a3
  have fin : ¬ unK (lfn src) V k → ∀ x, bit x (tgt = 3 ∧ gvK (lfn src) k ∧ ¬ cvK (lfn src) V src.length k) → (n, S, R, I) = (n, S, R, I) ∧ ∃ x', some (Value.int x) = some (.int x') ∧ bit x' (loK (lfn src) V src.length (tgt = 3) k) := fun hn x hx => ⟨rfl, x, rfl, bit_congr hx ⟨fun q => Or.inr q, fun q => q.resolve_left hn⟩⟩
  first | refine wp_aload_n (pc := 0) dX7_isLeftOut_0 rfl ?_ | refine wp_aload_nN (pc := 0) dX7_isLeftOut_0 rfl ?_
  refine wp_iload_n (pc := 1) dX7_isLeftOut_1 rfl ?_
  refine cv_LevelStoreModel_186 (pc := 2) (m_isUnseen hX hs hV hl hk) rfl dX7_isLeftOut_2 (by first | assumption | exact Fx.ok (by assumption) (by decide)) ⟨by decide, by decide, Nat.zero_le _, Nat.zero_le _⟩ (Nat.le_of_ble_eq_true rfl) (fun v h hp => ?_)
  obtain ⟨rfl, xu, rfl, hxu⟩ := hp
  refine wp_if_eq (pc := 5) (tgt := 10) dX7_isLeftOut_5 (by decide) (fun hc => ?_) (fun hc => ?_)
  · have hb := bit_f hxu hc
    first | refine wp_aload_n (pc := 10) dX7_isLeftOut_10 rfl ?_ | refine wp_aload_nN (pc := 10) dX7_isLeftOut_10 rfl ?_
    refine wp_getI (pc := 11) dX7_isLeftOut_11 fl_LevelStoreModel_150 (by first | assumption | exact Fx.ok (by assumption) (by decide)) rfl ?_
    refine wp_iconst (pc := 14) (v := 2) dX7_isLeftOut_14 (by decide) ?_
    refine wp_icmp_ne (pc := 15) (tgt := 33) dX7_isLeftOut_15 (by decide) (fun hc => ?_) (fun hc => ?_)
    · rw [tl_2, e21] at hc
      have hx : bit 0 (loW (lfn src) V (tgt = 3) k (k + 1)) := bit_0 (fun q => by have := q.1; omega)
      refine wp_iconst (pc := 33) (v := 0) dX7_isLeftOut_33 (by decide) ?_
      refine wp_istore_n (pc := 34) dX7_isLeftOut_34 (by decide) rfl ?_
      refine wp_iload_n (pc := 35) dX7_isLeftOut_35 rfl ?_
      refine wp_iconst (pc := 36) (v := 1) dX7_isLeftOut_36 (by decide) ?_
      refine wp_iadd (pc := 37) dX7_isLeftOut_37 ?_
      rw [nI_1]
      refine wp_istore_n (pc := 38) dX7_isLeftOut_38 (by decide) rfl ?_
      exact m_lo_loop hX hs hV hl (tgt = 3) hk _ (fin hb) (src.length - (k + 1)) (k + 1) _ _ _ (by omega) (by omega) rfl (fun i q1 q2 => by omega) hx ⟨rfl, rfl, rfl, rfl, trivial⟩
    · rw [tl_2, e21] at hc
      have h3 : tgt = 3 := by omega
      first | refine wp_aload_n (pc := 18) dX7_isLeftOut_18 rfl ?_ | refine wp_aload_nN (pc := 18) dX7_isLeftOut_18 rfl ?_
      refine wp_getR (pc := 19) dX7_isLeftOut_19 fl_LevelStoreModel_58 (by first | assumption | exact Fx.ok (by assumption) (by decide)) rfl (by first | assumption | exact Fx.ref (by assumption) rfl) ?_
      refine wp_iload_n (pc := 22) dX7_isLeftOut_22 rfl ?_
      refine wp_iaload (pc := 23) dX7_isLeftOut_23 (by first | assumption | exact Fx.ok (by assumption) (by decide)) (in_I (by omega) (by rw [z56]; omega)) ?_
      rw [ck, a3]
      refine wp_ldc (pc := 24) (v := -1000009) dX7_isLeftOut_24 cn_LevelStoreModel_116 ?_
      refine wp_icmp_ne (pc := 26) (tgt := 33) dX7_isLeftOut_26 (by decide) (fun hc => ?_) (fun hc => ?_)
      · have hx : bit 0 (loW (lfn src) V (tgt = 3) k (k + 1)) := bit_0 (fun q => hc (by rw [q.2.1]))
        refine wp_iconst (pc := 33) (v := 0) dX7_isLeftOut_33 (by decide) ?_
        refine wp_istore_n (pc := 34) dX7_isLeftOut_34 (by decide) rfl ?_
        refine wp_iload_n (pc := 35) dX7_isLeftOut_35 rfl ?_
        refine wp_iconst (pc := 36) (v := 1) dX7_isLeftOut_36 (by decide) ?_
        refine wp_iadd (pc := 37) dX7_isLeftOut_37 ?_
        rw [nI_1]
        refine wp_istore_n (pc := 38) dX7_isLeftOut_38 (by decide) rfl ?_
        exact m_lo_loop hX hs hV hl (tgt = 3) hk _ (fin hb) (src.length - (k + 1)) (k + 1) _ _ _ (by omega) (by omega) rfl (fun i q1 q2 => by omega) hx ⟨rfl, rfl, rfl, rfl, trivial⟩
      · have hx : bit 1 (loW (lfn src) V (tgt = 3) k (k + 1)) := bit_1 ⟨h3, tI_eq hc, fun i q1 q2 => by omega⟩
        refine wp_iconst (pc := 29) (v := 1) dX7_isLeftOut_29 (by decide) ?_
        refine wp_goto (pc := 30) (tgt := 34) dX7_isLeftOut_30 (by decide) ?_
        refine wp_istore_n (pc := 34) dX7_isLeftOut_34 (by decide) rfl ?_
        refine wp_iload_n (pc := 35) dX7_isLeftOut_35 rfl ?_
        refine wp_iconst (pc := 36) (v := 1) dX7_isLeftOut_36 (by decide) ?_
        refine wp_iadd (pc := 37) dX7_isLeftOut_37 ?_
        rw [nI_1]
        refine wp_istore_n (pc := 38) dX7_isLeftOut_38 (by decide) rfl ?_
        exact m_lo_loop hX hs hV hl (tgt = 3) hk _ (fin hb) (src.length - (k + 1)) (k + 1) _ _ _ (by omega) (by omega) rfl (fun i q1 q2 => by omega) hx ⟨rfl, rfl, rfl, rfl, trivial⟩
  · have hb := bit_t hxu hc
    refine wp_iconst (pc := 8) (v := 1) dX7_isLeftOut_8 (by decide) ?_
    refine wp_ret (pc := 9) dX7_isLeftOut_9 rfl (by first | trivial | exact Or.inl rfl | exact Or.inr rfl | assumption) ?_
    exact ⟨rfl, 1, rfl, bit_1 (Or.inl hb)⟩
end M11
