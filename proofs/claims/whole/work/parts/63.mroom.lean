/-! THE REFERENCE: room -/
section M13
variable {σ : St} {n : Nat} {S : ab_SH} {R : ab_RR} {I : ab_II} {SL : Nat → List Nat}
/-- a slot is not in the way -/
def slFree (I : ab_II) (len a f : Nat) : Prop := (I 44 f).toInt < 0 ∨ ((a + len : Nat) : Int) ≤ (I 46 f).toInt ∨ (I 46 f).toInt + (I 47 f).toInt ≤ a
theorem slPl (h : mSl σ I SL) (hP : PLC σ.FS) {f : Nat} (hf : f < 330) (hl : 0 ≤ (I 44 f).toInt) : ∃ (k a : Nat) (F : FA), lvk k ∧ (σ.FS k)[a]? = some F ∧ I 46 f = nI (pl F) ∧ I 47 f = nI (ln F) ∧ pl F + ln F ≤ 1500 := by
  obtain ⟨k, hk, hm⟩ := h.small hf hl
  obtain ⟨-, -, a, F, h1, h2, h3⟩ := h.mem hk hm
  obtain ⟨p1, p2, p3, p4⟩ := hP.1 k a F hk h2
  exact ⟨k, a, F, hk, h2, h3.2.1.trans p1, h3.2.2.1.trans p2, p3⟩
theorem m_room_90 (hX : Fx n S R) (h : mSl σ I SL) (hP : PLC σ.FS) {len a : Nat} (hlen : 1 ≤ len) (hl2 : len ≤ 1500) (ha : a ≤ 1500) (hno : ∀ p, p < a → ¬ Fit σ.FS len p) (hfr : ∀ f, f < 330 → slFree I len a f) {post : ab_Po} (hpost : ∀ x : Int32, ((∃ p, x = nI p ∧ room σ.FS len = some p) ∨ (x = -1 ∧ room σ.FS len = none)) → post (some (.int x)) (n, S, R, I)) (L : List (Nat × Value)) (hL : ab_sub L [(0, .ref 39), (1, .int (nI len)), (2, .int (nI a))]) : wp 0 0 0 0 MX7_room 90 L [] (n, S, R, I) post := by
  refine wp_loc hL ?_
  have t1500 : (1500 : Int32).toInt = 1500 := by decide +kernel
  have e1 : (nI (a + len)).toInt = ((a + len : Nat) : Int) := tI_n (by omega)
  refine wp_iload_n (pc := 90) dX7_room_90 rfl ?_
  refine wp_iload_n (pc := 91) dX7_room_91 rfl ?_
  refine wp_iadd (pc := 92) dX7_room_92 ?_
  rw [nI_add]
  refine wp_sipush (pc := 93) (v := 1500) dX7_room_93 (by decide) ?_
  refine wp_icmp_gt (pc := 96) (tgt := 103) dX7_room_96 (by decide) (fun hc => ?_) (fun hc => ?_)
  · rw [t1500, e1] at hc
    refine wp_iconst (pc := 103) (v := -1) dX7_room_103 (by decide) ?_
    refine wp_ret (pc := 104) dX7_room_104 rfl (by first | trivial | exact Or.inl rfl | exact Or.inr rfl | assumption) ?_
    first
    | refine hpost _ (Or.inr ⟨rfl, room_eq (Or.inr ⟨rfl, fun p hp => ?_⟩)⟩)
      by_cases q : p < a
      · exact hno p q hp
      · have := hp.1; omega
    | refine hpost _ (Or.inl ⟨a, rfl, room_eq (Or.inl ⟨a, rfl, ⟨by omega, fun k i F hk hF => ?_⟩, hno⟩)⟩)
      have hl := (List.getElem?_eq_some_iff.mp hF).1
      rw [← (h.1 k hk).1] at hl
      obtain ⟨g1, g2, g3⟩ := (h.1 k hk).2.2 i _ F (List.getElem?_eq_getElem hl) hF
      obtain ⟨p1, p2, p3, p4⟩ := hP.1 k i F hk hF
      have q := hfr _ g1
      unfold slFree at q
      rw [g2, g3.2.1, g3.2.2.1, p1, p2, tI_n (by omega), tI_n (by omega)] at q
      have := lvc_pos hk
      omega
  · rw [t1500, e1] at hc
    refine wp_iload_n (pc := 99) dX7_room_99 rfl ?_
    refine wp_goto (pc := 100) (tgt := 104) dX7_room_100 (by decide) ?_
    refine wp_ret (pc := 104) dX7_room_104 rfl (by first | trivial | exact Or.inl rfl | exact Or.inr rfl | assumption) ?_
    first
    | refine hpost _ (Or.inr ⟨rfl, room_eq (Or.inr ⟨rfl, fun p hp => ?_⟩)⟩)
      by_cases q : p < a
      · exact hno p q hp
      · have := hp.1; omega
    | refine hpost _ (Or.inl ⟨a, rfl, room_eq (Or.inl ⟨a, rfl, ⟨by omega, fun k i F hk hF => ?_⟩, hno⟩)⟩)
      have hl := (List.getElem?_eq_some_iff.mp hF).1
      rw [← (h.1 k hk).1] at hl
      obtain ⟨g1, g2, g3⟩ := (h.1 k hk).2.2 i _ F (List.getElem?_eq_getElem hl) hF
      obtain ⟨p1, p2, p3, p4⟩ := hP.1 k i F hk hF
      have q := hfr _ g1
      unfold slFree at q
      rw [g2, g3.2.1, g3.2.2.1, p1, p2, tI_n (by omega), tI_n (by omega)] at q
      have := lvc_pos hk
      omega
theorem m_room_pass (hX : Fx n S R) (h : mSl σ I SL) (hP : PLC σ.FS) {len a0 : Nat} (hlen : 1 ≤ len) (hl2 : len ≤ 1500) (post : ab_Po)
    (hpost : ∀ (a : Nat) (b : Int32), a ≤ 1500 → (∀ p, p < a → ¬ Fit σ.FS len p) → ((b = 0 ∧ a = a0 ∧ ∀ f, f < 330 → slFree I len a f) ∨ (b = 1 ∧ a0 < a)) → ∀ L, ab_sub L [(0, .ref 39), (1, .int (nI len)), (2, .int (nI a)), (3, .int b)] → wp 0 0 0 0 MX7_room 87 L [] (n, S, R, I) post) :
    ∀ (d t a : Nat) (b y : Int32) (L : List (Nat × Value)), 330 = t + d → y = nI t → a ≤ 1500 → (∀ p, p < a → ¬ Fit σ.FS len p) → ((b = 0 ∧ a = a0 ∧ ∀ f, f < t → slFree I len a f) ∨ (b = 1 ∧ a0 < a)) → ab_sub L [(0, .ref 39), (1, .int (nI len)), (2, .int (nI a)), (3, .int b), (4, .int y)] → wp 0 0 0 0 MX7_room 13 L [] (n, S, R, I) post := by
  have z44 : (S 44).2 = 330 := hX.len (by decide)
  have z46 : (S 46).2 = 330 := hX.len (by decide)
  have z47 : (S 47).2 = 330 := hX.len (by decide)
  have t330 : (330 : Int32).toInt = 330 := by decide +kernel
  intro d
  induction d with
  | zero =>
    intro t a b y L ht hy ha hno hb hL0
    refine wp_loc hL0 ?_
    have ey : y.toInt = t := by rw [hy, tI_n (by omega)]
    refine wp_iload (pc := 13) dX7_room_13 rfl ?_
    refine wp_sipush (pc := 15) (v := 330) dX7_room_15 (by decide) ?_
    refine wp_icmp_ge (pc := 18) (tgt := 87) dX7_room_18 (by decide) (fun hc => ?_) (fun hc => ?_)
    · skip
      exact hpost a b ha hno (hb.imp (fun q => ⟨q.1, q.2.1, fun f z => q.2.2 f (by omega)⟩) id) _ ⟨rfl, rfl, rfl, rfl, trivial⟩
    · rw [t330] at hc; omega
  | succ d ih =>
    intro t a b y L ht hy ha hno hb hL0
    refine wp_loc hL0 ?_
    subst hy
    have ey : (nI t).toInt = t := tI_n (by omega)
    have cy : (nI t).toNatClampNeg = t := nI_c (by omega)
    have e1 : (nI (a + len)).toInt = ((a + len : Nat) : Int) := tI_n (by omega)
    have ea : (nI a).toInt = a := tI_n (by omega)
    have nxt : ∀ (a : Nat) (b : Int32), a ≤ 1500 → (∀ p, p < a → ¬ Fit σ.FS len p) → ((b = 0 ∧ a = a0 ∧ ∀ f, f < t + 1 → slFree I len a f) ∨ (b = 1 ∧ a0 < a)) → ∀ L, ab_sub L [(0, .ref 39), (1, .int (nI len)), (2, .int (nI a)), (3, .int b), (4, .int (nI t))] → wp 0 0 0 0 MX7_room 81 L [] (n, S, R, I) post := by
      intro a b ha hno hb L hL
      refine wp_loc hL ?_
      refine wp_iinc (pc := 81) dX7_room_81 rfl (by decide) rfl ?_
      refine wp_goto (pc := 84) (tgt := 13) dX7_room_84 (by decide) ?_
      exact ih (t + 1) a b _ _ (by omega) (nI_i1 t) ha hno hb ⟨rfl, rfl, rfl, rfl, rfl, trivial⟩
    have free : slFree I len a t → ∀ L, ab_sub L [(0, .ref 39), (1, .int (nI len)), (2, .int (nI a)), (3, .int b), (4, .int (nI t))] → wp 0 0 0 0 MX7_room 81 L [] (n, S, R, I) post := fun hfr => nxt a b ha hno (hb.imp (fun q => ⟨q.1, q.2.1, fun f z => by
      by_cases w : f = t
      · rw [w]; exact hfr
      · exact q.2.2 f (by omega)⟩) id)
    by_cases hlv : 0 ≤ (I 44 t).toInt
    · obtain ⟨k, i, F, hk, hF, hpl, hln, hsum⟩ := slPl h hP (by omega) hlv
      have e2 : (nI (pl F)).toInt = (pl F : Int) := tI_n (by omega)
      have e3 : (nI (pl F + ln F)).toInt = ((pl F + ln F : Nat) : Int) := tI_n (by omega)
      have e4 : (nI (ln F)).toInt = (ln F : Int) := tI_n (by omega)
      refine wp_iload (pc := 13) dX7_room_13 rfl ?_
      refine wp_sipush (pc := 15) (v := 330) dX7_room_15 (by decide) ?_
      refine wp_icmp_ge (pc := 18) (tgt := 87) dX7_room_18 (by decide) (fun hc => ?_) (fun hc => ?_)
      · rw [t330] at hc; omega
      · skip
        first | refine wp_aload_n (pc := 21) dX7_room_21 rfl ?_ | refine wp_aload_nN (pc := 21) dX7_room_21 rfl ?_
        refine wp_getR (pc := 22) dX7_room_22 fl_LevelStoreModel_22 (by first | assumption | exact Fx.ok (by assumption) (by decide)) rfl (by first | assumption | exact Fx.ref (by assumption) rfl) ?_
        refine wp_iload (pc := 25) dX7_room_25 rfl ?_
        refine wp_iaload (pc := 27) dX7_room_27 (by first | assumption | exact Fx.ok (by assumption) (by decide)) (in_I (by omega) (by rw [z44]; omega)) ?_
        rw [cy]
        refine wp_if_lt (pc := 28) (tgt := 81) dX7_room_28 (by decide) (fun hc => ?_) (fun hc => ?_)
        · omega
        · skip
          first | refine wp_aload_n (pc := 31) dX7_room_31 rfl ?_ | refine wp_aload_nN (pc := 31) dX7_room_31 rfl ?_
          refine wp_getR (pc := 32) dX7_room_32 fl_LevelStoreModel_28 (by first | assumption | exact Fx.ok (by assumption) (by decide)) rfl (by first | assumption | exact Fx.ref (by assumption) rfl) ?_
          refine wp_iload (pc := 35) dX7_room_35 rfl ?_
          refine wp_iaload (pc := 37) dX7_room_37 (by first | assumption | exact Fx.ok (by assumption) (by decide)) (in_I (by omega) (by rw [z46]; omega)) ?_
          rw [cy, hpl]
          refine wp_iload_n (pc := 38) dX7_room_38 rfl ?_
          refine wp_iload_n (pc := 39) dX7_room_39 rfl ?_
          refine wp_iadd (pc := 40) dX7_room_40 ?_
          rw [nI_add]
          refine wp_icmp_ge (pc := 41) (tgt := 81) dX7_room_41 (by decide) (fun hc => ?_) (fun hc => ?_)
          · rw [e1, e2] at hc
            have hfr : slFree I len a t := Or.inr (Or.inl (by rw [hpl, e2]; exact hc))
            first
            | exact free hfr _ ⟨rfl, rfl, rfl, rfl, rfl, trivial⟩
            | refine nxt (pl F + ln F) 1 hsum (fun p hp hfit => ?_) (Or.inr ⟨rfl, ?_⟩) _ ⟨rfl, rfl, rfl, rfl, rfl, trivial⟩
              · by_cases q : p < a
                · exact hno p q hfit
                · have := hfit.2 k i F hk hF; omega
              · rcases hb with q | q
                · omega
                · omega
          · rw [e1, e2] at hc
            have hc1 := hc
            first | refine wp_aload_n (pc := 44) dX7_room_44 rfl ?_ | refine wp_aload_nN (pc := 44) dX7_room_44 rfl ?_
            refine wp_getR (pc := 45) dX7_room_45 fl_LevelStoreModel_28 (by first | assumption | exact Fx.ok (by assumption) (by decide)) rfl (by first | assumption | exact Fx.ref (by assumption) rfl) ?_
            refine wp_iload (pc := 48) dX7_room_48 rfl ?_
            refine wp_iaload (pc := 50) dX7_room_50 (by first | assumption | exact Fx.ok (by assumption) (by decide)) (in_I (by omega) (by rw [z46]; omega)) ?_
            rw [cy, hpl]
            first | refine wp_aload_n (pc := 51) dX7_room_51 rfl ?_ | refine wp_aload_nN (pc := 51) dX7_room_51 rfl ?_
            refine wp_getR (pc := 52) dX7_room_52 fl_LevelStoreModel_31 (by first | assumption | exact Fx.ok (by assumption) (by decide)) rfl (by first | assumption | exact Fx.ref (by assumption) rfl) ?_
            refine wp_iload (pc := 55) dX7_room_55 rfl ?_
            refine wp_iaload (pc := 57) dX7_room_57 (by first | assumption | exact Fx.ok (by assumption) (by decide)) (in_I (by omega) (by rw [z47]; omega)) ?_
            rw [cy, hln]
            refine wp_iadd (pc := 58) dX7_room_58 ?_
            rw [nI_add]
            refine wp_iload_n (pc := 59) dX7_room_59 rfl ?_
            refine wp_icmp_le (pc := 60) (tgt := 81) dX7_room_60 (by decide) (fun hc => ?_) (fun hc => ?_)
            · rw [e3, ea] at hc
              have hfr : slFree I len a t := Or.inr (Or.inr (by rw [hpl, hln, e2, e4]; omega))
              first
              | exact free hfr _ ⟨rfl, rfl, rfl, rfl, rfl, trivial⟩
              | refine nxt (pl F + ln F) 1 hsum (fun p hp hfit => ?_) (Or.inr ⟨rfl, ?_⟩) _ ⟨rfl, rfl, rfl, rfl, rfl, trivial⟩
                · by_cases q : p < a
                  · exact hno p q hfit
                  · have := hfit.2 k i F hk hF; omega
                · rcases hb with q | q
                  · omega
                  · omega
            · rw [e3, ea] at hc
              first | refine wp_aload_n (pc := 63) dX7_room_63 rfl ?_ | refine wp_aload_nN (pc := 63) dX7_room_63 rfl ?_
              refine wp_getR (pc := 64) dX7_room_64 fl_LevelStoreModel_28 (by first | assumption | exact Fx.ok (by assumption) (by decide)) rfl (by first | assumption | exact Fx.ref (by assumption) rfl) ?_
              refine wp_iload (pc := 67) dX7_room_67 rfl ?_
              refine wp_iaload (pc := 69) dX7_room_69 (by first | assumption | exact Fx.ok (by assumption) (by decide)) (in_I (by omega) (by rw [z46]; omega)) ?_
              rw [cy, hpl]
              first | refine wp_aload_n (pc := 70) dX7_room_70 rfl ?_ | refine wp_aload_nN (pc := 70) dX7_room_70 rfl ?_
              refine wp_getR (pc := 71) dX7_room_71 fl_LevelStoreModel_31 (by first | assumption | exact Fx.ok (by assumption) (by decide)) rfl (by first | assumption | exact Fx.ref (by assumption) rfl) ?_
              refine wp_iload (pc := 74) dX7_room_74 rfl ?_
              refine wp_iaload (pc := 76) dX7_room_76 (by first | assumption | exact Fx.ok (by assumption) (by decide)) (in_I (by omega) (by rw [z47]; omega)) ?_
              rw [cy, hln]
              refine wp_iadd (pc := 77) dX7_room_77 ?_
              rw [nI_add]
              refine wp_istore_n (pc := 78) dX7_room_78 (by decide) rfl ?_
              refine wp_iconst (pc := 79) (v := 1) dX7_room_79 (by decide) ?_
              refine wp_istore_n (pc := 80) dX7_room_80 (by decide) rfl ?_
              first
              | exact free hfr _ ⟨rfl, rfl, rfl, rfl, rfl, trivial⟩
              | refine nxt (pl F + ln F) 1 hsum (fun p hp hfit => ?_) (Or.inr ⟨rfl, ?_⟩) _ ⟨rfl, rfl, rfl, rfl, rfl, trivial⟩
                · by_cases q : p < a
                  · exact hno p q hfit
                  · have := hfit.2 k i F hk hF; omega
                · rcases hb with q | q
                  · omega
                  · omega
    · have hfr : slFree I len a t := Or.inl (by omega)
      refine wp_iload (pc := 13) dX7_room_13 rfl ?_
      refine wp_sipush (pc := 15) (v := 330) dX7_room_15 (by decide) ?_
      refine wp_icmp_ge (pc := 18) (tgt := 87) dX7_room_18 (by decide) (fun hc => ?_) (fun hc => ?_)
      · rw [t330] at hc; omega
      · skip
        first | refine wp_aload_n (pc := 21) dX7_room_21 rfl ?_ | refine wp_aload_nN (pc := 21) dX7_room_21 rfl ?_
        refine wp_getR (pc := 22) dX7_room_22 fl_LevelStoreModel_22 (by first | assumption | exact Fx.ok (by assumption) (by decide)) rfl (by first | assumption | exact Fx.ref (by assumption) rfl) ?_
        refine wp_iload (pc := 25) dX7_room_25 rfl ?_
        refine wp_iaload (pc := 27) dX7_room_27 (by first | assumption | exact Fx.ok (by assumption) (by decide)) (in_I (by omega) (by rw [z44]; omega)) ?_
        rw [cy]
        refine wp_if_lt (pc := 28) (tgt := 81) dX7_room_28 (by decide) (fun hc => ?_) (fun hc => ?_)
        · skip
          exact free hfr _ ⟨rfl, rfl, rfl, rfl, rfl, trivial⟩
        · omega
theorem m_room_out (hX : Fx n S R) (h : mSl σ I SL) (hP : PLC σ.FS) {len : Nat} (hlen : 1 ≤ len) (hl2 : len ≤ 1500) (post : ab_Po) (hpost : ∀ x : Int32, ((∃ p, x = nI p ∧ room σ.FS len = some p) ∨ (x = -1 ∧ room σ.FS len = none)) → post (some (.int x)) (n, S, R, I)) :
    ∀ (m a : Nat) (L : List (Nat × Value)), 1500 - a ≤ m → a ≤ 1500 → (∀ p, p < a → ¬ Fit σ.FS len p) → ab_sub L [(0, .ref 39), (1, .int (nI len)), (2, .int (nI a))] → wp 0 0 0 0 MX7_room 8 L [] (n, S, R, I) post := by
  have t4 : ∀ (a : Nat) (b : Int32), (b = 0 → wp 0 0 0 0 MX7_room 90 [(0, .ref 39), (1, .int (nI len)), (2, .int (nI a)), (3, .int b)] [] (n, S, R, I) post) → (b = 1 → wp 0 0 0 0 MX7_room 8 [(0, .ref 39), (1, .int (nI len)), (2, .int (nI a)), (3, .int b)] [] (n, S, R, I) post) → (b = 0 ∨ b = 1) → ∀ L, ab_sub L [(0, .ref 39), (1, .int (nI len)), (2, .int (nI a)), (3, .int b)] → wp 0 0 0 0 MX7_room 87 L [] (n, S, R, I) post := by
    intro a b k0 k1 hb L hL
    refine wp_loc hL ?_
    refine wp_goto (pc := 87) (tgt := 4) dX7_room_87 (by decide) ?_
    refine wp_iload_n (pc := 4) dX7_room_4 rfl ?_
    refine wp_if_eq (pc := 5) (tgt := 90) dX7_room_5 (by decide) (fun hc => ?_) (fun hc => ?_)
    · have hb0 : b = 0 := tI_eq hc
      exact k0 hb0
    · have hb1 : b = 1 := hb.resolve_left (fun q => hc (by rw [q]; rfl))
      exact k1 hb1
  intro m
  induction m with
  | zero =>
    intro a L hm ha hno hL0
    refine wp_loc hL0 ?_
    refine wp_iconst (pc := 8) (v := 0) dX7_room_8 (by decide) ?_
    refine wp_istore_n (pc := 9) dX7_room_9 (by decide) rfl ?_
    refine wp_iconst (pc := 10) (v := 0) dX7_room_10 (by decide) ?_
    refine wp_istore (pc := 11) dX7_room_11 (by decide) rfl ?_
    refine m_room_pass hX h hP hlen hl2 post (a0 := a) (fun a' b' ha' hno' hb' L' hL' => ?_) 330 0 a 0 _ _ rfl rfl ha hno (Or.inl ⟨rfl, rfl, fun f q => by omega⟩) ⟨rfl, rfl, rfl, rfl, rfl, trivial⟩
    rcases hb' with ⟨rfl, rfl, hfr⟩ | ⟨rfl, hgt⟩
    · exact t4 a' 0 (fun _ => m_room_90 hX h hP hlen hl2 ha' hno' hfr hpost _ ⟨rfl, rfl, rfl, trivial⟩) (fun q => absurd q (by decide)) (Or.inl rfl) L' hL'
    · omega
  | succ m ih =>
    intro a L hm ha hno hL0
    refine wp_loc hL0 ?_
    refine wp_iconst (pc := 8) (v := 0) dX7_room_8 (by decide) ?_
    refine wp_istore_n (pc := 9) dX7_room_9 (by decide) rfl ?_
    refine wp_iconst (pc := 10) (v := 0) dX7_room_10 (by decide) ?_
    refine wp_istore (pc := 11) dX7_room_11 (by decide) rfl ?_
    refine m_room_pass hX h hP hlen hl2 post (a0 := a) (fun a' b' ha' hno' hb' L' hL' => ?_) 330 0 a 0 _ _ rfl rfl ha hno (Or.inl ⟨rfl, rfl, fun f q => by omega⟩) ⟨rfl, rfl, rfl, rfl, rfl, trivial⟩
    rcases hb' with ⟨rfl, rfl, hfr⟩ | ⟨rfl, hgt⟩
    · exact t4 a' 0 (fun _ => m_room_90 hX h hP hlen hl2 ha' hno' hfr hpost _ ⟨rfl, rfl, rfl, trivial⟩) (fun q => absurd q (by decide)) (Or.inl rfl) L' hL'
    · exact t4 a' 1 (fun q => absurd q (by decide)) (fun _ => ih a' _ (by omega) ha' hno' ⟨rfl, rfl, rfl, trivial⟩) (Or.inr rfl) L' hL'
theorem m_room (hX : Fx n S R) (h : mSl σ I SL) (hP : PLC σ.FS) {len : Nat} (hlen : 1 ≤ len) (hl2 : len ≤ 1500) : wp 0 0 0 0 MX7_room 0 [(0, .ref 39), (1, .int (nI len))] [] (n, S, R, I) (fun v hh => hh = (n, S, R, I) ∧ ∃ x, v = some (.int x) ∧ ((∃ p, x = nI p ∧ room σ.FS len = some p) ∨ (x = -1 ∧ room σ.FS len = none))) := by
  refine wp_iconst (pc := 0) (v := 0) dX7_room_0 (by decide) ?_
  refine wp_istore_n (pc := 1) dX7_room_1 (by decide) rfl ?_
  refine wp_iconst (pc := 2) (v := 1) dX7_room_2 (by decide) ?_
  refine wp_istore_n (pc := 3) dX7_room_3 (by decide) rfl ?_
  refine wp_iload_n (pc := 4) dX7_room_4 rfl ?_
  refine wp_if_eq (pc := 5) (tgt := 90) dX7_room_5 (by decide) (fun hc => ?_) (fun hc => ?_)
  · exact absurd hc (by decide)
  · skip
    exact m_room_out hX h hP hlen hl2 _ (fun x hx => ⟨rfl, x, rfl, hx⟩) 1500 0 _ (by omega) (by omega) (fun p q => by omega) ⟨rfl, rfl, rfl, trivial⟩
theorem free_ex (h : mSl σ I SL) (hc : cntF σ.FS ≤ 329) : ∃ f, f < 330 ∧ (I 44 f).toInt < 0 := by
  by_cases q : ∃ f, f < 330 ∧ (I 44 f).toInt < 0
  · exact q
  · exfalso
    have hall : ∀ f, f ∈ List.range 330 → f ∈ SL 0 ++ SL 1 ++ SL 2 ++ SL 3 ++ SL 5 := by
      intro f hf
      have hf := List.mem_range.mp hf
      have hp : 0 ≤ (I 44 f).toInt := Int.not_lt.mp (fun z => q ⟨f, hf, z⟩)
      obtain ⟨k, hk, hm⟩ := h.small hf hp
      rcases hk with hk | hk
      · rcases (show k = 0 ∨ k = 1 ∨ k = 2 ∨ k = 3 by omega) with rfl | rfl | rfl | rfl <;> simp [hm]
      · subst hk; simp [hm]
    have := List.Nodup.length_le_of_subset List.nodup_range hall
    rw [List.length_range] at this
    simp only [List.length_append] at this
    rw [(h.1 0 (by decide)).1, (h.1 1 (by decide)).1, (h.1 2 (by decide)).1, (h.1 3 (by decide)).1, (h.1 5 (by decide)).1] at this
    unfold cntF at hc
    omega
end M13
