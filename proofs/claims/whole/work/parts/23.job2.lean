/-! THE JOB: to decide, to end; READING -/
section JOB
variable {n : Nat} {S : ab_SH} {R : ab_RR} {s : Nat} {f : Nat → En}
def bit (x : Int32) (p : Prop) : Prop := (x = 1 ∧ p) ∨ (x = 0 ∧ ¬ p)
theorem bit.b {x : Int32} {p : Prop} (h : bit x p) : x = 0 ∨ x = 1 := by
  rcases h with h | h
  · exact Or.inr h.1
  · exact Or.inl h.1
theorem bit.t {x : Int32} {p : Prop} (h : bit x p) (h1 : x ≠ 0) : p := by
  rcases h with h | h
  · exact h.2
  · exact absurd h.1 h1
theorem bit.z {x : Int32} {p : Prop} (h : bit x p) (h1 : x = 0) : ¬ p := by
  rcases h with h | h
  · rw [h.1] at h1; exact absurd h1 (by decide)
  · exact h.2
theorem bit.iff {x : Int32} {p q : Prop} (h : bit x p) (e : p ↔ q) : bit x q := by
  rcases h with h | h
  · exact Or.inl ⟨h.1, e.mp h.2⟩
  · exact Or.inr ⟨h.1, fun z => h.2 (e.mpr z)⟩
theorem cv_last {V : Nat → Int32} {k : Nat} (h : k + 1 = s ∨ (f k).1.toInt ≠ (f (k + 1)).1.toInt) : ¬ cvK f V s k := by
  rintro ⟨j, h1, h2, h3, -⟩
  rcases h with h | h
  · omega
  · exact h (h3 (k + 1) (by omega) (by omega)).symm
theorem cv_step {V : Nat → Int32} {k : Nat} (hk : k + 1 < s) (h : (f k).1.toInt = (f (k + 1)).1.toInt) : cvK f V s k ↔ ((¬ unK f V (k + 1) ∧ ¬ gvK f (k + 1)) ∨ cvK f V s (k + 1)) := by
  constructor
  · rintro ⟨j, h1, h2, h3, h4⟩
    by_cases hj : j = k + 1
    · subst hj
      exact Or.inl h4
    · refine Or.inr ⟨j, by omega, h2, fun i a b => ?_, h4⟩
      rw [h3 i (by omega) b, h]
  · rintro (h4 | ⟨j, h1, h2, h3, h4⟩)
    · exact ⟨k + 1, by omega, hk, fun i a b => by rw [show i = k + 1 by omega]; exact h.symm, h4⟩
    · refine ⟨j, by omega, h2, fun i a b => ?_, h4⟩
      by_cases hi : i = k + 1
      · rw [hi]; exact h.symm
      · rw [h3 i (by omega) b]; exact h.symm
/-- covers, as the row of graves is walked from its end: of the key of k -/
def CV (f : Nat → En) (V : Nat → Int32) (s k : Nat) : Prop := (¬ unK f V k ∧ ¬ gvK f k) ∨ cvK f V s k
theorem s_X2_leaveOutGraves_loop (hX : Fx n S R) (hs : s ≤ 750) {I0 : ab_II} (hI0 : rw_I I0 28 29 30 31 s f) (V : Nat → Int32) (post : ab_Po) (hpost : ∀ I', ab_fr I0 I' [32] → (∀ k, k < s → bit (I' 32 k) (loK f V s True k)) → post none (n, S, R, I')) :
    ∀ (t : Nat) (y c : Int32) (I : ab_II), t ≤ s → y.toInt = (t : Int) - 1 → bit c (t < s ∧ CV f V s t) → ab_fr I0 I [32] → (∀ k, k < t → bit (I 32 k) (unK f V k)) → (∀ k, t ≤ k → k < s → bit (I 32 k) (loK f V s True k)) → wp 3 63 0 0 MX2_leaveOutGraves 20 [(0, .ref 27), (1, .int c), (2, .int y)] [] (n, S, R, I) post := by
  have z : (S 32).2 = 750 := hX.len (by decide)
  have o32 : ab_ok n S 32 10 := hX.ok (by decide)
  have o28 : ab_ok n S 28 5 := hX.ok (by decide)
  have hS := hX.src
  have keep : ∀ I : ab_II, ab_fr I0 I [32] → rw_I I 28 29 30 31 s f := fun I hf => hI0.keep hf (by decide) (by decide) (by decide) (by decide)
  intro t
  induction t with
  | zero =>
    intro y c I ht hy hcv hf hlo hhi
    refine wp_iload_n (pc := 20) dX2_leaveOutGraves_20 rfl ?_
    refine wp_if_lt (pc := 21) (tgt := 89) dX2_leaveOutGraves_21 (by decide) (fun hc => ?_) (fun hc => ?_)
    · skip
      refine wp_retv (pc := 89) dX2_leaveOutGraves_89 rfl ?_
      exact hpost I hf (fun k hk => hhi k (by omega) hk)
    · omega
  | succ t ih =>
    intro y c I ht hy hcv hf hlo hhi
    have hI := keep I hf
    have ey : y.toInt = t := by omega
    have en : y = nI t := tI_N ey
    have cy : y.toNatClampNeg = t := by rw [en]; exact nI_c (by omega)
    have hbt := hlo t (by omega)
    have next : ∀ (I' : ab_II) (c' : Int32), ab_fr I I' [32] → bit (I' 32 t) (loK f V s True t) → (∀ k, k ≠ t → I' 32 k = I 32 k) → bit c' (CV f V s t) → ∀ L', ab_sub L' [(0, .ref 27), (1, .int c'), (2, .int (y + Int32.ofInt (-1)))] → wp 3 63 0 0 MX2_leaveOutGraves 20 L' [] (n, S, R, I') post := by
      intro I' c' hf' h1 h2 h3 L' hL'
      refine wp_loc hL' ?_
      refine ih _ c' I' (by omega) ?_ (h3.iff ⟨fun q => ⟨by omega, q⟩, fun q => q.2⟩) (hf.tr1 hf') (fun k hk => ?_) (fun k hk1 hk2 => ?_)
      · rw [show Int32.ofInt (-1) = -1 by decide, tI_add (by rw [tl_m1]; omega) (by rw [tl_m1]; omega), tl_m1]; omega
      · rw [h2 k (by omega)]; exact hlo k (by omega)
      · by_cases hk : k = t
        · rw [hk]; exact h1
        · rw [h2 k hk]; exact hhi k (by omega) hk2
    have mid : ∀ (c' : Int32) (L' : List (Nat × Value)), bit c' (cvK f V s t) → ab_sub L' [(0, .ref 27), (1, .int c'), (2, .int y)] → wp 3 63 0 0 MX2_leaveOutGraves 34 L' [] (n, S, R, I) post := by
      intro c' L' hc' hL'
      refine wp_loc hL' ?_
      have k3 : rk_3 s f y = (f t).2.2 := by rw [rk_3, if_pos (by omega), ey, Int.toNat_natCast]
      first | refine wp_aload_n (pc := 34) dX2_leaveOutGraves_34 rfl ?_ | refine wp_aload_nN (pc := 34) dX2_leaveOutGraves_34 rfl ?_
      refine wp_getR (pc := 35) dX2_leaveOutGraves_35 fl_Job_20 (by first | assumption | exact Fx.ok (by assumption) (by decide)) rfl (by first | assumption | exact Fx.ref (by assumption) rfl) ?_
      refine wp_iload_n (pc := 38) dX2_leaveOutGraves_38 rfl ?_
      refine wp_baload (pc := 39) dX2_leaveOutGraves_39 (by first | assumption | exact Fx.ok (by assumption) (by decide)) (in_I (by omega) (by rw [z]; omega)) ?_
      rw [cy]
      refine wp_if_ne (pc := 40) (tgt := 72) dX2_leaveOutGraves_40 (by decide) (fun hc => ?_) (fun hc => ?_)
      · have hun : unK f V t := hbt.t (fun q => hc (by rw [q]; rfl))
        first | refine wp_aload_n (pc := 72) dX2_leaveOutGraves_72 rfl ?_ | refine wp_aload_nN (pc := 72) dX2_leaveOutGraves_72 rfl ?_
        refine wp_getR (pc := 73) dX2_leaveOutGraves_73 fl_Job_20 (by first | assumption | exact Fx.ok (by assumption) (by decide)) rfl (by first | assumption | exact Fx.ref (by assumption) rfl) ?_
        refine wp_iload_n (pc := 76) dX2_leaveOutGraves_76 rfl ?_
        refine wp_baload (pc := 77) dX2_leaveOutGraves_77 (by first | assumption | exact Fx.ok (by assumption) (by decide)) (in_I (by omega) (by rw [z]; omega)) ?_
        rw [cy]
        refine wp_if_ne (pc := 78) (tgt := 83) dX2_leaveOutGraves_78 (by decide) (fun hc => ?_) (fun hc => ?_)
        · have hn0 : I 32 t ≠ 0 := fun q => hc (by rw [q]; rfl)
          refine wp_iinc (pc := 83) dX2_leaveOutGraves_83 rfl (by decide) rfl ?_
          refine wp_goto (pc := 86) (tgt := 20) dX2_leaveOutGraves_86 (by decide) ?_
          first
          | exact next _ c' (ab_fr.u2 (by simp)) (by rw [cy, ab_u2_s]; first | exact Or.inl ⟨rfl, Or.inr ⟨trivial, hg, hcov⟩⟩ | exact Or.inr ⟨rfl, fun q => q.elim hun (fun q => q.2.2 hcov)⟩) (fun k hk => by rw [cy, ab_u2_n _ _ (Or.inr hk)]) (hc'.iff ⟨fun q => Or.inr q, fun q => q.elim (fun q => absurd hg q.2) id⟩) _ ⟨rfl, rfl, rfl, trivial⟩
          | exact next I 1 ab_fr.rf (Or.inr ⟨hn0, fun q => q.elim (hbt.z hn0) (fun q => hg q.2.1)⟩) (fun _ _ => rfl) (Or.inl ⟨rfl, Or.inl ⟨hbt.z hn0, hg⟩⟩) _ ⟨rfl, rfl, rfl, trivial⟩
          | exact next I c' ab_fr.rf (Or.inl ⟨hbt.b.resolve_left hn0, Or.inl (hbt.t hn0)⟩) (fun _ _ => rfl) (hc'.iff ⟨fun q => Or.inr q, fun q => q.elim (fun q => absurd (hbt.t hn0) q.1) id⟩) _ ⟨rfl, rfl, rfl, trivial⟩
          | exact absurd (hbt.z hn0) (fun q => q hun)
          | exact absurd (hbt.t hn0) hun
        · have hn0 : I 32 t = 0 := tI_eq hc
          refine wp_iconst (pc := 81) (v := 1) dX2_leaveOutGraves_81 (by decide) ?_
          refine wp_istore_n (pc := 82) dX2_leaveOutGraves_82 (by decide) rfl ?_
          refine wp_iinc (pc := 83) dX2_leaveOutGraves_83 rfl (by decide) rfl ?_
          refine wp_goto (pc := 86) (tgt := 20) dX2_leaveOutGraves_86 (by decide) ?_
          first
          | exact next _ c' (ab_fr.u2 (by simp)) (by rw [cy, ab_u2_s]; first | exact Or.inl ⟨rfl, Or.inr ⟨trivial, hg, hcov⟩⟩ | exact Or.inr ⟨rfl, fun q => q.elim hun (fun q => q.2.2 hcov)⟩) (fun k hk => by rw [cy, ab_u2_n _ _ (Or.inr hk)]) (hc'.iff ⟨fun q => Or.inr q, fun q => q.elim (fun q => absurd hg q.2) id⟩) _ ⟨rfl, rfl, rfl, trivial⟩
          | exact next I 1 ab_fr.rf (Or.inr ⟨hn0, fun q => q.elim (hbt.z hn0) (fun q => hg q.2.1)⟩) (fun _ _ => rfl) (Or.inl ⟨rfl, Or.inl ⟨hbt.z hn0, hg⟩⟩) _ ⟨rfl, rfl, rfl, trivial⟩
          | exact next I c' ab_fr.rf (Or.inl ⟨hbt.b.resolve_left hn0, Or.inl (hbt.t hn0)⟩) (fun _ _ => rfl) (hc'.iff ⟨fun q => Or.inr q, fun q => q.elim (fun q => absurd (hbt.t hn0) q.1) id⟩) _ ⟨rfl, rfl, rfl, trivial⟩
          | exact absurd (hbt.z hn0) (fun q => q hun)
          | exact absurd (hbt.t hn0) hun
      · have hun : ¬ unK f V t := hbt.z (tI_eq hc)
        first | refine wp_aload_n (pc := 43) dX2_leaveOutGraves_43 rfl ?_ | refine wp_aload_nN (pc := 43) dX2_leaveOutGraves_43 rfl ?_
        refine wp_getR (pc := 44) dX2_leaveOutGraves_44 fl_Job_14 (by first | assumption | exact Fx.ok (by assumption) (by decide)) rfl (by first | assumption | exact Fx.ref (by assumption) rfl) ?_
        refine wp_iload_n (pc := 47) dX2_leaveOutGraves_47 rfl ?_
        refine cv_Job_74 (pc := 48) (s_X4_isGrave hS hI hs y) rfl dX2_leaveOutGraves_48 (by first | assumption | exact Fx.ok (by assumption) (by decide)) ⟨by decide, by decide, Nat.zero_le _, Nat.zero_le _⟩ (Nat.le_of_ble_eq_true rfl) (fun v h hp => ?_)
        obtain ⟨rfl, rfl⟩ := hp
        rw [k3]
        refine wp_if_eq (pc := 51) (tgt := 72) dX2_leaveOutGraves_51 (by decide) (fun hc => ?_) (fun hc => ?_)
        · have hg : ¬ gvK f t := fun q => by rw [if_pos q] at hc; exact absurd hc (by decide)
          first | refine wp_aload_n (pc := 72) dX2_leaveOutGraves_72 rfl ?_ | refine wp_aload_nN (pc := 72) dX2_leaveOutGraves_72 rfl ?_
          refine wp_getR (pc := 73) dX2_leaveOutGraves_73 fl_Job_20 (by first | assumption | exact Fx.ok (by assumption) (by decide)) rfl (by first | assumption | exact Fx.ref (by assumption) rfl) ?_
          refine wp_iload_n (pc := 76) dX2_leaveOutGraves_76 rfl ?_
          refine wp_baload (pc := 77) dX2_leaveOutGraves_77 (by first | assumption | exact Fx.ok (by assumption) (by decide)) (in_I (by omega) (by rw [z]; omega)) ?_
          rw [cy]
          refine wp_if_ne (pc := 78) (tgt := 83) dX2_leaveOutGraves_78 (by decide) (fun hc => ?_) (fun hc => ?_)
          · have hn0 : I 32 t ≠ 0 := fun q => hc (by rw [q]; rfl)
            refine wp_iinc (pc := 83) dX2_leaveOutGraves_83 rfl (by decide) rfl ?_
            refine wp_goto (pc := 86) (tgt := 20) dX2_leaveOutGraves_86 (by decide) ?_
            first
            | exact next _ c' (ab_fr.u2 (by simp)) (by rw [cy, ab_u2_s]; first | exact Or.inl ⟨rfl, Or.inr ⟨trivial, hg, hcov⟩⟩ | exact Or.inr ⟨rfl, fun q => q.elim hun (fun q => q.2.2 hcov)⟩) (fun k hk => by rw [cy, ab_u2_n _ _ (Or.inr hk)]) (hc'.iff ⟨fun q => Or.inr q, fun q => q.elim (fun q => absurd hg q.2) id⟩) _ ⟨rfl, rfl, rfl, trivial⟩
            | exact next I 1 ab_fr.rf (Or.inr ⟨hn0, fun q => q.elim (hbt.z hn0) (fun q => hg q.2.1)⟩) (fun _ _ => rfl) (Or.inl ⟨rfl, Or.inl ⟨hbt.z hn0, hg⟩⟩) _ ⟨rfl, rfl, rfl, trivial⟩
            | exact next I c' ab_fr.rf (Or.inl ⟨hbt.b.resolve_left hn0, Or.inl (hbt.t hn0)⟩) (fun _ _ => rfl) (hc'.iff ⟨fun q => Or.inr q, fun q => q.elim (fun q => absurd (hbt.t hn0) q.1) id⟩) _ ⟨rfl, rfl, rfl, trivial⟩
            | exact absurd (hbt.z hn0) (fun q => q hun)
            | exact absurd (hbt.t hn0) hun
          · have hn0 : I 32 t = 0 := tI_eq hc
            refine wp_iconst (pc := 81) (v := 1) dX2_leaveOutGraves_81 (by decide) ?_
            refine wp_istore_n (pc := 82) dX2_leaveOutGraves_82 (by decide) rfl ?_
            refine wp_iinc (pc := 83) dX2_leaveOutGraves_83 rfl (by decide) rfl ?_
            refine wp_goto (pc := 86) (tgt := 20) dX2_leaveOutGraves_86 (by decide) ?_
            first
            | exact next _ c' (ab_fr.u2 (by simp)) (by rw [cy, ab_u2_s]; first | exact Or.inl ⟨rfl, Or.inr ⟨trivial, hg, hcov⟩⟩ | exact Or.inr ⟨rfl, fun q => q.elim hun (fun q => q.2.2 hcov)⟩) (fun k hk => by rw [cy, ab_u2_n _ _ (Or.inr hk)]) (hc'.iff ⟨fun q => Or.inr q, fun q => q.elim (fun q => absurd hg q.2) id⟩) _ ⟨rfl, rfl, rfl, trivial⟩
            | exact next I 1 ab_fr.rf (Or.inr ⟨hn0, fun q => q.elim (hbt.z hn0) (fun q => hg q.2.1)⟩) (fun _ _ => rfl) (Or.inl ⟨rfl, Or.inl ⟨hbt.z hn0, hg⟩⟩) _ ⟨rfl, rfl, rfl, trivial⟩
            | exact next I c' ab_fr.rf (Or.inl ⟨hbt.b.resolve_left hn0, Or.inl (hbt.t hn0)⟩) (fun _ _ => rfl) (hc'.iff ⟨fun q => Or.inr q, fun q => q.elim (fun q => absurd (hbt.t hn0) q.1) id⟩) _ ⟨rfl, rfl, rfl, trivial⟩
            | exact absurd (hbt.z hn0) (fun q => q hun)
            | exact absurd (hbt.t hn0) hun
        · have hg : gvK f t := Decidable.byContradiction fun q => hc (by rw [if_neg q]; rfl)
          first | refine wp_aload_n (pc := 54) dX2_leaveOutGraves_54 rfl ?_ | refine wp_aload_nN (pc := 54) dX2_leaveOutGraves_54 rfl ?_
          refine wp_getR (pc := 55) dX2_leaveOutGraves_55 fl_Job_20 (by first | assumption | exact Fx.ok (by assumption) (by decide)) rfl (by first | assumption | exact Fx.ref (by assumption) rfl) ?_
          refine wp_iload_n (pc := 58) dX2_leaveOutGraves_58 rfl ?_
          refine wp_iload_n (pc := 59) dX2_leaveOutGraves_59 rfl ?_
          refine wp_if_ne (pc := 60) (tgt := 67) dX2_leaveOutGraves_60 (by decide) (fun hc => ?_) (fun hc => ?_)
          · have hcov : cvK f V s t := hc'.t (fun q => hc (by rw [q]; rfl))
            refine wp_iconst (pc := 67) (v := 0) dX2_leaveOutGraves_67 (by decide) ?_
            refine wp_bastore (pc := 68) dX2_leaveOutGraves_68 (by first | assumption | exact Fx.ok (by assumption) (by decide)) (in_I (by omega) (by rw [z]; omega)) (by first | exact Or.inl rfl | exact Or.inr rfl | assumption) ?_
            refine wp_goto (pc := 69) (tgt := 83) dX2_leaveOutGraves_69 (by decide) ?_
            refine wp_iinc (pc := 83) dX2_leaveOutGraves_83 rfl (by decide) rfl ?_
            refine wp_goto (pc := 86) (tgt := 20) dX2_leaveOutGraves_86 (by decide) ?_
            first
            | exact next _ c' (ab_fr.u2 (by simp)) (by rw [cy, ab_u2_s]; first | exact Or.inl ⟨rfl, Or.inr ⟨trivial, hg, hcov⟩⟩ | exact Or.inr ⟨rfl, fun q => q.elim hun (fun q => q.2.2 hcov)⟩) (fun k hk => by rw [cy, ab_u2_n _ _ (Or.inr hk)]) (hc'.iff ⟨fun q => Or.inr q, fun q => q.elim (fun q => absurd hg q.2) id⟩) _ ⟨rfl, rfl, rfl, trivial⟩
            | exact next I 1 ab_fr.rf (Or.inr ⟨hn0, fun q => q.elim (hbt.z hn0) (fun q => hg q.2.1)⟩) (fun _ _ => rfl) (Or.inl ⟨rfl, Or.inl ⟨hbt.z hn0, hg⟩⟩) _ ⟨rfl, rfl, rfl, trivial⟩
            | exact next I c' ab_fr.rf (Or.inl ⟨hbt.b.resolve_left hn0, Or.inl (hbt.t hn0)⟩) (fun _ _ => rfl) (hc'.iff ⟨fun q => Or.inr q, fun q => q.elim (fun q => absurd (hbt.t hn0) q.1) id⟩) _ ⟨rfl, rfl, rfl, trivial⟩
            | exact absurd (hbt.z hn0) (fun q => q hun)
            | exact absurd (hbt.t hn0) hun
          · have hcov : ¬ cvK f V s t := hc'.z (tI_eq hc)
            refine wp_iconst (pc := 63) (v := 1) dX2_leaveOutGraves_63 (by decide) ?_
            refine wp_goto (pc := 64) (tgt := 68) dX2_leaveOutGraves_64 (by decide) ?_
            refine wp_bastore (pc := 68) dX2_leaveOutGraves_68 (by first | assumption | exact Fx.ok (by assumption) (by decide)) (in_I (by omega) (by rw [z]; omega)) (by first | exact Or.inl rfl | exact Or.inr rfl | assumption) ?_
            refine wp_goto (pc := 69) (tgt := 83) dX2_leaveOutGraves_69 (by decide) ?_
            refine wp_iinc (pc := 83) dX2_leaveOutGraves_83 rfl (by decide) rfl ?_
            refine wp_goto (pc := 86) (tgt := 20) dX2_leaveOutGraves_86 (by decide) ?_
            first
            | exact next _ c' (ab_fr.u2 (by simp)) (by rw [cy, ab_u2_s]; first | exact Or.inl ⟨rfl, Or.inr ⟨trivial, hg, hcov⟩⟩ | exact Or.inr ⟨rfl, fun q => q.elim hun (fun q => q.2.2 hcov)⟩) (fun k hk => by rw [cy, ab_u2_n _ _ (Or.inr hk)]) (hc'.iff ⟨fun q => Or.inr q, fun q => q.elim (fun q => absurd hg q.2) id⟩) _ ⟨rfl, rfl, rfl, trivial⟩
            | exact next I 1 ab_fr.rf (Or.inr ⟨hn0, fun q => q.elim (hbt.z hn0) (fun q => hg q.2.1)⟩) (fun _ _ => rfl) (Or.inl ⟨rfl, Or.inl ⟨hbt.z hn0, hg⟩⟩) _ ⟨rfl, rfl, rfl, trivial⟩
            | exact next I c' ab_fr.rf (Or.inl ⟨hbt.b.resolve_left hn0, Or.inl (hbt.t hn0)⟩) (fun _ _ => rfl) (hc'.iff ⟨fun q => Or.inr q, fun q => q.elim (fun q => absurd (hbt.t hn0) q.1) id⟩) _ ⟨rfl, rfl, rfl, trivial⟩
            | exact absurd (hbt.z hn0) (fun q => q hun)
            | exact absurd (hbt.t hn0) hun
    subst en
    refine wp_iload_n (pc := 20) dX2_leaveOutGraves_20 rfl ?_
    refine wp_if_lt (pc := 21) (tgt := 89) dX2_leaveOutGraves_21 (by decide) (fun hc => ?_) (fun hc => ?_)
    · omega
    · skip
      first | refine wp_aload_n (pc := 24) dX2_leaveOutGraves_24 rfl ?_ | refine wp_aload_nN (pc := 24) dX2_leaveOutGraves_24 rfl ?_
      refine wp_iload_n (pc := 25) dX2_leaveOutGraves_25 rfl ?_
      refine cv_Job_71 (pc := 26) (s_X2_isLastOfKey hX hI hs t (by omega)) rfl dX2_leaveOutGraves_26 (hX.ok (by decide)) ⟨by decide, by decide, Nat.zero_le _, Nat.zero_le _⟩ (Nat.le_of_ble_eq_true rfl) (fun v h hp => ?_)
      obtain ⟨rfl, rfl⟩ := hp
      refine wp_if_eq (pc := 29) (tgt := 34) dX2_leaveOutGraves_29 (by decide) (fun hc => ?_) (fun hc => ?_)
      · have hl : ¬ (t + 1 = s ∨ (f t).1.toInt ≠ (f (t + 1)).1.toInt) := fun q => by rw [if_pos q] at hc; exact absurd hc (by decide)
        first
        | exact mid 0 _ (Or.inr ⟨rfl, cv_last hl⟩) ⟨rfl, rfl, rfl, trivial⟩
        | (have h1 : t + 1 < s := by omega
           have h2 : (f t).1.toInt = (f (t + 1)).1.toInt := by omega
           exact mid c _ (hcv.iff ⟨fun q => (cv_step h1 h2).mpr q.2, fun q => ⟨h1, (cv_step h1 h2).mp q⟩⟩) ⟨rfl, rfl, rfl, trivial⟩)
      · have hl : t + 1 = s ∨ (f t).1.toInt ≠ (f (t + 1)).1.toInt := Decidable.byContradiction fun q => hc (by rw [if_neg q]; rfl)
        refine wp_iconst (pc := 32) (v := 0) dX2_leaveOutGraves_32 (by decide) ?_
        refine wp_istore_n (pc := 33) dX2_leaveOutGraves_33 (by decide) rfl ?_
        first
        | exact mid 0 _ (Or.inr ⟨rfl, cv_last hl⟩) ⟨rfl, rfl, rfl, trivial⟩
        | (have h1 : t + 1 < s := by omega
           have h2 : (f t).1.toInt = (f (t + 1)).1.toInt := by omega
           exact mid c _ (hcv.iff ⟨fun q => (cv_step h1 h2).mpr q.2, fun q => ⟨h1, (cv_step h1 h2).mp q⟩⟩) ⟨rfl, rfl, rfl, trivial⟩)
theorem s_X2_leaveOutGraves {I : ab_II} (hX : Fx n S R) (hs : s ≤ 750) (hI : rw_I I 28 29 30 31 s f) (V : Nat → Int32) (hlo : ∀ k, k < s → bit (I 32 k) (unK f V k)) : wp 3 63 0 0 MX2_leaveOutGraves 0 [(0, .ref 27)] [] (n, S, R, I) (fun v h => v = none ∧ ∃ I', h = (n, S, R, I') ∧ ab_fr I I' [32] ∧ ∀ k, k < s → bit (I' 32 k) (loK f V s True k)) := by
  have z : (S 32).2 = 750 := hX.len (by decide)
  have o32 : ab_ok n S 32 10 := hX.ok (by decide)
  have e0 : (I 28 3).toInt = s := by rw [hI.1, tI_n (by omega)]
  have e1 : (if Int32.ofNat (S 32).2 < I 28 3 then Int32.ofNat (S 32).2 else I 28 3) = I 28 3 := if_neg (fun q => by have := Int32.lt_iff_toInt_lt.mp q; rw [z, tI_o (by omega), e0] at this; omega)
  refine wp_iconst (pc := 0) (v := 0) dX2_leaveOutGraves_0 (by decide) ?_
  refine wp_istore_n (pc := 1) dX2_leaveOutGraves_1 (by decide) rfl ?_
  first | refine wp_aload_n (pc := 2) dX2_leaveOutGraves_2 rfl ?_ | refine wp_aload_nN (pc := 2) dX2_leaveOutGraves_2 rfl ?_
  refine wp_getR (pc := 3) dX2_leaveOutGraves_3 fl_Job_14 (by first | assumption | exact Fx.ok (by assumption) (by decide)) rfl (by first | assumption | exact Fx.ref (by assumption) rfl) ?_
  refine wp_getI (pc := 6) dX2_leaveOutGraves_6 fl_Job_45 (by first | assumption | exact Fx.ok (by assumption) (by decide)) rfl ?_
  first | refine wp_aload_n (pc := 9) dX2_leaveOutGraves_9 rfl ?_ | refine wp_aload_nN (pc := 9) dX2_leaveOutGraves_9 rfl ?_
  refine wp_getR (pc := 10) dX2_leaveOutGraves_10 fl_Job_20 (by first | assumption | exact Fx.ok (by assumption) (by decide)) rfl (by first | assumption | exact Fx.ref (by assumption) rfl) ?_
  first | refine wp_alen (pc := 13) dX2_leaveOutGraves_13 (Or.inl (by assumption)) ?_ | refine wp_alen (pc := 13) dX2_leaveOutGraves_13 (Or.inr (Or.inl (by assumption))) ?_ | refine wp_alen (pc := 13) dX2_leaveOutGraves_13 (Or.inr (Or.inr (Or.inl (by assumption)))) ?_ | refine wp_alen (pc := 13) dX2_leaveOutGraves_13 (Or.inr (Or.inr (Or.inr (by assumption)))) ?_
  refine wp_min (pc := 14) dX2_leaveOutGraves_14 ml_Job_65 (by decide) (Nat.le_of_ble_eq_true rfl) ?_
  rw [e1]
  refine wp_iconst (pc := 17) (v := 1) dX2_leaveOutGraves_17 (by decide) ?_
  refine wp_isub (pc := 18) dX2_leaveOutGraves_18 ?_
  refine wp_istore_n (pc := 19) dX2_leaveOutGraves_19 (by decide) rfl ?_
  refine wp_loc (L' := [(0, .ref 27), (1, .int 0), (2, .int (I 28 3 - 1))]) ⟨rfl, rfl, rfl, trivial⟩ ?_
  refine s_X2_leaveOutGraves_loop hX hs hI V _ (fun I' h1 h2 => ⟨rfl, I', rfl, h1, h2⟩) s _ 0 I (Nat.le_refl s) ?_ (Or.inr ⟨rfl, fun q => absurd q.1 (by omega)⟩) ab_fr.rf hlo (fun k h1 h2 => absurd h1 (by omega))
  rw [tI_sub (by rw [tl_1]; omega) (by rw [tl_1]; omega), tl_1, e0]
theorem s_X2_decide_loop (hX : Fx n S R) (hs : s ≤ 750) {I0 : ab_II} (hI0 : rw_I I0 28 29 30 31 s f) (post : ab_Po) (hpost : ∀ I', ab_fr I0 I' [32] → (∀ k, k < s → bit (I' 32 k) (loK f (I0 8) s ((I0 27 4).toInt = 3) k)) → post none (n, S, R, I')) :
    ∀ (d t : Nat) (y : Int32) (I : ab_II), s = t + d → y = nI t → ab_fr I0 I [32] → (∀ k, k < t → bit (I 32 k) (unK f (I0 8) k)) → wp 4 85 0 0 MX2_decide 2 [(0, .ref 27), (1, .ref 8), (2, .int y)] [] (n, S, R, I) post := by
  have z : (S 32).2 = 750 := hX.len (by decide)
  have o32 : ab_ok n S 32 10 := hX.ok (by decide)
  have o28 : ab_ok n S 28 5 := hX.ok (by decide)
  have o27 : ab_ok n S 27 3 := hX.ok (by decide)
  have keep : ∀ I : ab_II, ab_fr I0 I [32] → rw_I I 28 29 30 31 s f := fun I hf => hI0.keep hf (by decide) (by decide) (by decide) (by decide)
  intro d
  induction d with
  | zero =>
    intro t y I ht hy hf hlo
    have hI := keep I hf
    have ey : y.toInt = t := by rw [hy, tI_n (by omega)]
    have e0 : (I 28 3).toInt = s := by rw [hI.1, tI_n (by omega)]
    refine wp_iload_n (pc := 2) dX2_decide_2 rfl ?_
    first | refine wp_aload_n (pc := 3) dX2_decide_3 rfl ?_ | refine wp_aload_nN (pc := 3) dX2_decide_3 rfl ?_
    refine wp_getR (pc := 4) dX2_decide_4 fl_Job_14 (by first | assumption | exact Fx.ok (by assumption) (by decide)) rfl (by first | assumption | exact Fx.ref (by assumption) rfl) ?_
    refine wp_getI (pc := 7) dX2_decide_7 fl_Job_45 (by first | assumption | exact Fx.ok (by assumption) (by decide)) rfl ?_
    refine wp_icmp_ge (pc := 10) (tgt := 56) dX2_decide_10 (by decide) (fun hc => ?_) (fun hc => ?_)
    · skip
      first | refine wp_aload_n (pc := 56) dX2_decide_56 rfl ?_ | refine wp_aload_nN (pc := 56) dX2_decide_56 rfl ?_
      refine wp_getI (pc := 57) dX2_decide_57 fl_Job_42 (by first | assumption | exact Fx.ok (by assumption) (by decide)) rfl ?_
      refine wp_iconst (pc := 60) (v := 3) dX2_decide_60 (by decide) ?_
      rw [hf 27 (by decide)]
      refine wp_icmp_ne (pc := 61) (tgt := 68) dX2_decide_61 (by decide) (fun hc => ?_) (fun hc => ?_)
      · rw [tl_3] at hc
        refine wp_retv (pc := 68) dX2_decide_68 rfl ?_
        first
        | exact hpost I' (hf.tr1 h1) (fun k hk => (h2 k hk).iff ⟨fun q => q.elim Or.inl (fun q => Or.inr ⟨hc, q.2⟩), fun q => q.elim Or.inl (fun q => Or.inr ⟨trivial, q.2⟩)⟩)
        | exact hpost I hf (fun k hk => (hlo k (by omega)).iff ⟨Or.inl, fun q => q.elim id (fun q => absurd q.1 hc)⟩)
      · rw [tl_3] at hc
        first | refine wp_aload_n (pc := 64) dX2_decide_64 rfl ?_ | refine wp_aload_nN (pc := 64) dX2_decide_64 rfl ?_
        refine cv_Job_62 (pc := 65) (s_X2_leaveOutGraves hX hs hI (I0 8) (fun k hk => hlo k (by omega))) rfl dX2_decide_65 (by first | assumption | exact Fx.ok (by assumption) (by decide)) ⟨by decide, by decide, Nat.zero_le _, Nat.zero_le _⟩ (Nat.le_of_ble_eq_true rfl) (fun v h hp => ?_)
        obtain ⟨rfl, I', rfl, h1, h2⟩ := hp
        refine wp_retv (pc := 68) dX2_decide_68 rfl ?_
        first
        | exact hpost I' (hf.tr1 h1) (fun k hk => (h2 k hk).iff ⟨fun q => q.elim Or.inl (fun q => Or.inr ⟨hc, q.2⟩), fun q => q.elim Or.inl (fun q => Or.inr ⟨trivial, q.2⟩)⟩)
        | exact hpost I hf (fun k hk => (hlo k (by omega)).iff ⟨Or.inl, fun q => q.elim id (fun q => absurd q.1 hc)⟩)
    · omega
  | succ d ih =>
    intro t y I ht hy hf hlo
    have hI := keep I hf
    have ey : y.toInt = t := by rw [hy, tI_n (by omega)]
    have cy : y.toNatClampNeg = t := by rw [hy]; exact nI_c (by omega)
    have e0 : (I 28 3).toInt = s := by rw [hI.1, tI_n (by omega)]
    have e8 : I 8 = I0 8 := hf 8 (by decide)
    have next : ∀ (b : Int32), bit b (unK f (I0 8) t) → ∀ L', ab_sub L' [(0, .ref 27), (1, .ref 8), (2, .int (y + Int32.ofInt 1))] → wp 4 85 0 0 MX2_decide 2 L' [] (n, S, R, ab_u2 I 32 t b) post := by
      intro b hb L' hL'
      refine wp_loc hL' ?_
      refine ih (t + 1) _ _ (by omega) (by rw [hy]; exact nI_i1 t) (hf.tr1 (ab_fr.u2 (by simp))) (fun k hk => ?_)
      by_cases hkt : k = t
      · rw [hkt, ab_u2_s]; exact hb
      · rw [ab_u2_n _ _ (Or.inr hkt)]; exact hlo k (by omega)
    refine wp_iload_n (pc := 2) dX2_decide_2 rfl ?_
    first | refine wp_aload_n (pc := 3) dX2_decide_3 rfl ?_ | refine wp_aload_nN (pc := 3) dX2_decide_3 rfl ?_
    refine wp_getR (pc := 4) dX2_decide_4 fl_Job_14 (by first | assumption | exact Fx.ok (by assumption) (by decide)) rfl (by first | assumption | exact Fx.ref (by assumption) rfl) ?_
    refine wp_getI (pc := 7) dX2_decide_7 fl_Job_45 (by first | assumption | exact Fx.ok (by assumption) (by decide)) rfl ?_
    refine wp_icmp_ge (pc := 10) (tgt := 56) dX2_decide_10 (by decide) (fun hc => ?_) (fun hc => ?_)
    · omega
    · skip
      refine wp_iload_n (pc := 13) dX2_decide_13 rfl ?_
      first | refine wp_aload_n (pc := 14) dX2_decide_14 rfl ?_ | refine wp_aload_nN (pc := 14) dX2_decide_14 rfl ?_
      refine wp_getR (pc := 15) dX2_decide_15 fl_Job_20 (by first | assumption | exact Fx.ok (by assumption) (by decide)) rfl (by first | assumption | exact Fx.ref (by assumption) rfl) ?_
      first | refine wp_alen (pc := 18) dX2_decide_18 (Or.inl (by assumption)) ?_ | refine wp_alen (pc := 18) dX2_decide_18 (Or.inr (Or.inl (by assumption))) ?_ | refine wp_alen (pc := 18) dX2_decide_18 (Or.inr (Or.inr (Or.inl (by assumption)))) ?_ | refine wp_alen (pc := 18) dX2_decide_18 (Or.inr (Or.inr (Or.inr (by assumption)))) ?_
      refine wp_icmp_ge (pc := 19) (tgt := 56) dX2_decide_19 (by decide) (fun hc => ?_) (fun hc => ?_)
      · rw [z, tI_o (by omega)] at hc; omega
      · skip
        first | refine wp_aload_n (pc := 22) dX2_decide_22 rfl ?_ | refine wp_aload_nN (pc := 22) dX2_decide_22 rfl ?_
        refine wp_getR (pc := 23) dX2_decide_23 fl_Job_20 (by first | assumption | exact Fx.ok (by assumption) (by decide)) rfl (by first | assumption | exact Fx.ref (by assumption) rfl) ?_
        refine wp_iload_n (pc := 26) dX2_decide_26 rfl ?_
        first | refine wp_aload_n (pc := 27) dX2_decide_27 rfl ?_ | refine wp_aload_nN (pc := 27) dX2_decide_27 rfl ?_
        refine wp_iload_n (pc := 28) dX2_decide_28 rfl ?_
        rw [hy]
        refine cv_Job_54 (pc := 29) (s_X2_isFirstOfKey hX hI hs t (by omega)) rfl dX2_decide_29 (by first | assumption | exact Fx.ok (by assumption) (by decide)) ⟨by decide, by decide, Nat.zero_le _, Nat.zero_le _⟩ (Nat.le_of_ble_eq_true rfl) (fun v h hp => ?_)
        obtain ⟨rfl, rfl⟩ := hp
        rw [← hy]
        refine wp_if_ne (pc := 32) (tgt := 48) dX2_decide_32 (by decide) (fun hc => ?_) (fun hc => ?_)
        · have hff : ffK f t := Decidable.byContradiction fun q => hc (by rw [if_neg q]; rfl)
          refine wp_iconst (pc := 48) (v := 0) dX2_decide_48 (by decide) ?_
          refine wp_bastore (pc := 49) dX2_decide_49 (by first | assumption | exact Fx.ok (by assumption) (by decide)) (in_I (by omega) (by rw [z]; omega)) (by first | exact Or.inl rfl | exact Or.inr rfl | assumption) ?_
          refine wp_iinc (pc := 50) dX2_decide_50 rfl (by decide) rfl ?_
          refine wp_goto (pc := 53) (tgt := 2) dX2_decide_53 (by decide) ?_
          rw [cy]
          first
          | exact next 1 (Or.inl ⟨rfl, hff, hse⟩) _ ⟨rfl, rfl, rfl, trivial⟩
          | exact next 0 (Or.inr ⟨rfl, fun q => q.2 hse⟩) _ ⟨rfl, rfl, rfl, trivial⟩
          | exact next 0 (Or.inr ⟨rfl, fun q => q.1 hff⟩) _ ⟨rfl, rfl, rfl, trivial⟩
        · have hff : ¬ ffK f t := fun q => by rw [if_pos q] at hc; exact absurd hc (by decide)
          first | refine wp_aload_n (pc := 35) dX2_decide_35 rfl ?_ | refine wp_aload_nN (pc := 35) dX2_decide_35 rfl ?_
          refine wp_iload_n (pc := 36) dX2_decide_36 rfl ?_
          first | refine wp_aload_n (pc := 37) dX2_decide_37 rfl ?_ | refine wp_aload_nN (pc := 37) dX2_decide_37 rfl ?_
          rw [hy]
          refine cv_Job_58 (pc := 38) (s_X2_isSeen hX hI hs t (by omega) (by unfold ffK at hff; omega)) rfl dX2_decide_38 (by first | assumption | exact Fx.ok (by assumption) (by decide)) ⟨by decide, by decide, Nat.zero_le _, Nat.zero_le _⟩ (Nat.le_of_ble_eq_true rfl) (fun v h hp => ?_)
          obtain ⟨rfl, rfl⟩ := hp
          rw [← hy, e8]
          refine wp_if_ne (pc := 41) (tgt := 48) dX2_decide_41 (by decide) (fun hc => ?_) (fun hc => ?_)
          · have hse : seenK f (I0 8) t := Decidable.byContradiction fun q => hc (by rw [if_neg q]; rfl)
            refine wp_iconst (pc := 48) (v := 0) dX2_decide_48 (by decide) ?_
            refine wp_bastore (pc := 49) dX2_decide_49 (by first | assumption | exact Fx.ok (by assumption) (by decide)) (in_I (by omega) (by rw [z]; omega)) (by first | exact Or.inl rfl | exact Or.inr rfl | assumption) ?_
            refine wp_iinc (pc := 50) dX2_decide_50 rfl (by decide) rfl ?_
            refine wp_goto (pc := 53) (tgt := 2) dX2_decide_53 (by decide) ?_
            rw [cy]
            first
            | exact next 1 (Or.inl ⟨rfl, hff, hse⟩) _ ⟨rfl, rfl, rfl, trivial⟩
            | exact next 0 (Or.inr ⟨rfl, fun q => q.2 hse⟩) _ ⟨rfl, rfl, rfl, trivial⟩
            | exact next 0 (Or.inr ⟨rfl, fun q => q.1 hff⟩) _ ⟨rfl, rfl, rfl, trivial⟩
          · have hse : ¬ seenK f (I0 8) t := fun q => by rw [if_pos q] at hc; exact absurd hc (by decide)
            refine wp_iconst (pc := 44) (v := 1) dX2_decide_44 (by decide) ?_
            refine wp_goto (pc := 45) (tgt := 49) dX2_decide_45 (by decide) ?_
            refine wp_bastore (pc := 49) dX2_decide_49 (by first | assumption | exact Fx.ok (by assumption) (by decide)) (in_I (by omega) (by rw [z]; omega)) (by first | exact Or.inl rfl | exact Or.inr rfl | assumption) ?_
            refine wp_iinc (pc := 50) dX2_decide_50 rfl (by decide) rfl ?_
            refine wp_goto (pc := 53) (tgt := 2) dX2_decide_53 (by decide) ?_
            rw [cy]
            first
            | exact next 1 (Or.inl ⟨rfl, hff, hse⟩) _ ⟨rfl, rfl, rfl, trivial⟩
            | exact next 0 (Or.inr ⟨rfl, fun q => q.2 hse⟩) _ ⟨rfl, rfl, rfl, trivial⟩
            | exact next 0 (Or.inr ⟨rfl, fun q => q.1 hff⟩) _ ⟨rfl, rfl, rfl, trivial⟩
theorem s_X2_decide {I : ab_II} (hX : Fx n S R) (hs : s ≤ 750) (hI : rw_I I 28 29 30 31 s f) : wp 4 85 0 0 MX2_decide 0 [(0, .ref 27), (1, .ref 8)] [] (n, S, R, I) (fun v h => v = none ∧ ∃ I', h = (n, S, R, I') ∧ ab_fr I I' [32] ∧ ∀ k, k < s → bit (I' 32 k) (loK f (I 8) s ((I 27 4).toInt = 3) k)) := by
  refine wp_iconst (pc := 0) (v := 0) dX2_decide_0 (by decide) ?_
  refine wp_istore_n (pc := 1) dX2_decide_1 (by decide) rfl ?_
  refine wp_loc (L' := [(0, .ref 27), (1, .ref 8), (2, .int 0)]) ⟨rfl, rfl, rfl, trivial⟩ ?_
  exact s_X2_decide_loop hX hs hI _ (fun I' h1 h2 => ⟨rfl, I', rfl, h1, h2⟩) s 0 _ I (by omega) rfl ab_fr.rf (fun k hk => absurd hk (by omega))
theorem s_X2_endsFileAhead {I : ab_II} {m : Nat} {g : Nat → En} (hX : Fx n S R) (hs : s ≤ 750) (hI : rw_I I 28 29 30 31 s f) (hm : m ≤ 24) (hG : rw_I I 33 34 35 36 m g) (k : Nat) (hk : k < s) : wp 1 21 0 0 MX2_endsFileAhead 0 [(0, .ref 27), (1, .int (nI k))] [] (n, S, R, I) (fun v h => h = (n, S, R, I) ∧ v = some (.int (if (I 27 1).toInt ≠ -1 ∧ 8 ≤ m ∧ (g (m - 1)).1.toInt ≠ (f k).1.toInt then 1 else 0))) := by
  have o33 : ab_ok n S 33 5 := hX.ok (by decide)
  have o28 : ab_ok n S 28 5 := hX.ok (by decide)
  have ek : (nI k).toInt = k := tI_n (by omega)
  have e0 : (I 33 3).toInt = m := by rw [hG.1, tI_n (by omega)]
  have k1 : rk_1 s f (nI k) = (f k).1 := by rw [rk_1, if_pos (by omega), ek, Int.toNat_natCast]
  have e1 : 8 ≤ m → I 33 3 - 1 = nI (m - 1) := fun h => by
    rw [hG.1]
    obtain ⟨j, rfl⟩ : ∃ j, m = j + 1 := ⟨m - 1, by omega⟩
    exact nI_pred j
  have e2 : 8 ≤ m → rk_1 m g (nI (m - 1)) = (g (m - 1)).1 := fun h => by
    have : (nI (m - 1)).toInt = ((m - 1 : Nat) : Int) := tI_n (by omega)
    rw [rk_1, if_pos (by omega), this, Int.toNat_natCast]
  first | refine wp_aload_n (pc := 0) dX2_endsFileAhead_0 rfl ?_ | refine wp_aload_nN (pc := 0) dX2_endsFileAhead_0 rfl ?_
  refine wp_getI (pc := 1) dX2_endsFileAhead_1 fl_Job_38 (by first | assumption | exact Fx.ok (by assumption) (by decide)) rfl ?_
  refine wp_iconst (pc := 4) (v := -1) dX2_endsFileAhead_4 (by decide) ?_
  refine wp_icmp_eq (pc := 5) (tgt := 51) dX2_endsFileAhead_5 (by decide) (fun hc => ?_) (fun hc => ?_)
  · rw [tl_m1] at hc
    refine wp_iconst (pc := 51) (v := 0) dX2_endsFileAhead_51 (by decide) ?_
    refine wp_ret (pc := 52) dX2_endsFileAhead_52 rfl (by first | trivial | exact Or.inl rfl | exact Or.inr rfl | assumption) ?_
    first | exact ⟨rfl, by rw [if_pos (by omega)]⟩ | exact ⟨rfl, by rw [if_neg (by omega)]⟩
  · rw [tl_m1] at hc
    first | refine wp_aload_n (pc := 8) dX2_endsFileAhead_8 rfl ?_ | refine wp_aload_nN (pc := 8) dX2_endsFileAhead_8 rfl ?_
    refine wp_getR (pc := 9) dX2_endsFileAhead_9 fl_Job_24 (by first | assumption | exact Fx.ok (by assumption) (by decide)) rfl (by first | assumption | exact Fx.ref (by assumption) rfl) ?_
    refine wp_getI (pc := 12) dX2_endsFileAhead_12 fl_Job_45 (by first | assumption | exact Fx.ok (by assumption) (by decide)) rfl ?_
    refine wp_bipush (pc := 15) (v := 8) dX2_endsFileAhead_15 (by decide) ?_
    refine wp_icmp_lt (pc := 17) (tgt := 51) dX2_endsFileAhead_17 (by decide) (fun hc => ?_) (fun hc => ?_)
    · rw [tl_8, e0] at hc
      refine wp_iconst (pc := 51) (v := 0) dX2_endsFileAhead_51 (by decide) ?_
      refine wp_ret (pc := 52) dX2_endsFileAhead_52 rfl (by first | trivial | exact Or.inl rfl | exact Or.inr rfl | assumption) ?_
      first | exact ⟨rfl, by rw [if_pos (by omega)]⟩ | exact ⟨rfl, by rw [if_neg (by omega)]⟩
    · rw [tl_8, e0] at hc
      first | refine wp_aload_n (pc := 20) dX2_endsFileAhead_20 rfl ?_ | refine wp_aload_nN (pc := 20) dX2_endsFileAhead_20 rfl ?_
      refine wp_getR (pc := 21) dX2_endsFileAhead_21 fl_Job_24 (by first | assumption | exact Fx.ok (by assumption) (by decide)) rfl (by first | assumption | exact Fx.ref (by assumption) rfl) ?_
      first | refine wp_aload_n (pc := 24) dX2_endsFileAhead_24 rfl ?_ | refine wp_aload_nN (pc := 24) dX2_endsFileAhead_24 rfl ?_
      refine wp_getR (pc := 25) dX2_endsFileAhead_25 fl_Job_24 (by first | assumption | exact Fx.ok (by assumption) (by decide)) rfl (by first | assumption | exact Fx.ref (by assumption) rfl) ?_
      refine wp_getI (pc := 28) dX2_endsFileAhead_28 fl_Job_45 (by first | assumption | exact Fx.ok (by assumption) (by decide)) rfl ?_
      refine wp_iconst (pc := 31) (v := 1) dX2_endsFileAhead_31 (by decide) ?_
      refine wp_isub (pc := 32) dX2_endsFileAhead_32 ?_
      rw [e1 (by omega)]
      refine cv_Job_77 (pc := 33) (s_X4_key hX.mak hG hm _) rfl dX2_endsFileAhead_33 (by first | assumption | exact Fx.ok (by assumption) (by decide)) ⟨by decide, by decide, Nat.zero_le _, Nat.zero_le _⟩ (Nat.le_of_ble_eq_true rfl) (fun v h hp => ?_)
      obtain ⟨rfl, rfl⟩ := hp
      rw [e2 (by omega)]
      first | refine wp_aload_n (pc := 36) dX2_endsFileAhead_36 rfl ?_ | refine wp_aload_nN (pc := 36) dX2_endsFileAhead_36 rfl ?_
      refine wp_getR (pc := 37) dX2_endsFileAhead_37 fl_Job_14 (by first | assumption | exact Fx.ok (by assumption) (by decide)) rfl (by first | assumption | exact Fx.ref (by assumption) rfl) ?_
      refine wp_iload_n (pc := 40) dX2_endsFileAhead_40 rfl ?_
      refine cv_Job_77 (pc := 41) (s_X4_key hX.src hI hs _) rfl dX2_endsFileAhead_41 (by first | assumption | exact Fx.ok (by assumption) (by decide)) ⟨by decide, by decide, Nat.zero_le _, Nat.zero_le _⟩ (Nat.le_of_ble_eq_true rfl) (fun v h hp => ?_)
      obtain ⟨rfl, rfl⟩ := hp
      rw [k1]
      refine wp_icmp_eq (pc := 44) (tgt := 51) dX2_endsFileAhead_44 (by decide) (fun hc => ?_) (fun hc => ?_)
      · skip
        refine wp_iconst (pc := 51) (v := 0) dX2_endsFileAhead_51 (by decide) ?_
        refine wp_ret (pc := 52) dX2_endsFileAhead_52 rfl (by first | trivial | exact Or.inl rfl | exact Or.inr rfl | assumption) ?_
        first | exact ⟨rfl, by rw [if_pos (by omega)]⟩ | exact ⟨rfl, by rw [if_neg (by omega)]⟩
      · skip
        refine wp_iconst (pc := 47) (v := 1) dX2_endsFileAhead_47 (by decide) ?_
        refine wp_goto (pc := 48) (tgt := 52) dX2_endsFileAhead_48 (by decide) ?_
        refine wp_ret (pc := 52) dX2_endsFileAhead_52 rfl (by first | trivial | exact Or.inl rfl | exact Or.inr rfl | assumption) ?_
        first | exact ⟨rfl, by rw [if_pos (by omega)]⟩ | exact ⟨rfl, by rw [if_neg (by omega)]⟩
theorem s_X2_end {I : ab_II} {arr cap : Nat} {l : List Nat} (hX : Fx n S R) (hL : al_L n S R I 38 arr cap l) : wp 2 43 0 0 MX2_end 0 [(0, .ref 27)] [] (n, S, R, I) (fun v h => v = none ∧ ∃ R' I', h = (n, S, R', I') ∧ al_L n S R' I' 38 arr cap [] ∧ (∀ j, j ≠ arr → R' j = R j) ∧ (∀ j, j ≠ 38 → I' j = ab_u2 (ab_u2 (ab_u2 (ab_u2 I 27 0 0) 28 3 0) 27 9 0) 33 3 0 j)) := by
  have hF : fr_S n S R 37 38 := ⟨hX.ok (by decide), hX.ref rfl⟩
  have hL' : al_L n S R (ab_u2 (ab_u2 (ab_u2 (ab_u2 I 27 0 0) 28 3 0) 27 9 0) 33 3 0) 38 arr cap l := hL.keepI (by rw [ab_u2_r _ _ (by decide), ab_u2_r _ _ (by decide), ab_u2_r _ _ (by decide), ab_u2_r _ _ (by decide)])
  first | refine wp_aload_n (pc := 0) dX2_end_0 rfl ?_ | refine wp_aload_nN (pc := 0) dX2_end_0 rfl ?_
  refine wp_iconst (pc := 1) (v := 0) dX2_end_1 (by decide) ?_
  refine wp_putI (pc := 2) dX2_end_2 fl_Job_34 (by first | assumption | exact Fx.ok (by assumption) (by decide)) rfl rfl (Or.inr ⟨rfl, by first | exact Or.inl rfl | exact Or.inr rfl | assumption⟩) ?_
  first | refine wp_aload_n (pc := 5) dX2_end_5 rfl ?_ | refine wp_aload_nN (pc := 5) dX2_end_5 rfl ?_
  refine wp_getR (pc := 6) dX2_end_6 fl_Job_14 (by first | assumption | exact Fx.ok (by assumption) (by decide)) rfl (by first | assumption | exact Fx.ref (by assumption) rfl) ?_
  refine wp_iconst (pc := 9) (v := 0) dX2_end_9 (by decide) ?_
  refine wp_putI (pc := 10) dX2_end_10 fl_Job_45 (by first | assumption | exact Fx.ok (by assumption) (by decide)) rfl rfl (Or.inl rfl) ?_
  first | refine wp_aload_n (pc := 13) dX2_end_13 rfl ?_ | refine wp_aload_nN (pc := 13) dX2_end_13 rfl ?_
  refine wp_iconst (pc := 14) (v := 0) dX2_end_14 (by decide) ?_
  refine wp_putI (pc := 15) dX2_end_15 fl_Job_48 (by first | assumption | exact Fx.ok (by assumption) (by decide)) rfl rfl (Or.inl rfl) ?_
  first | refine wp_aload_n (pc := 18) dX2_end_18 rfl ?_ | refine wp_aload_nN (pc := 18) dX2_end_18 rfl ?_
  refine wp_getR (pc := 19) dX2_end_19 fl_Job_24 (by first | assumption | exact Fx.ok (by assumption) (by decide)) rfl (by first | assumption | exact Fx.ref (by assumption) rfl) ?_
  refine wp_iconst (pc := 22) (v := 0) dX2_end_22 (by decide) ?_
  refine wp_putI (pc := 23) dX2_end_23 fl_Job_45 (by first | assumption | exact Fx.ok (by assumption) (by decide)) rfl rfl (Or.inl rfl) ?_
  first | refine wp_aload_n (pc := 26) dX2_end_26 rfl ?_ | refine wp_aload_nN (pc := 26) dX2_end_26 rfl ?_
  refine wp_getR (pc := 27) dX2_end_27 fl_Job_30 (by first | assumption | exact Fx.ok (by assumption) (by decide)) rfl (by first | assumption | exact Fx.ref (by assumption) rfl) ?_
  refine cv_Job_51 (pc := 30) (s_X1_empty hF hL') rfl dX2_end_30 (by first | assumption | exact Fx.ok (by assumption) (by decide)) ⟨by decide, by decide, Nat.zero_le _, Nat.zero_le _⟩ (Nat.le_of_ble_eq_true rfl) (fun v h hp => ?_)
  obtain ⟨rfl, R', I', rfl, g1, g2, g3⟩ := hp
  refine wp_retv (pc := 33) dX2_end_33 rfl ?_
  exact ⟨rfl, R', I', rfl, g1, g2, g3⟩
end JOB
