/-! TO READ -/
def rd1 (k : Int) (u : Int) (p : Int32 × Int32) (e : En) : Int32 × Int32 := if e.1.toInt = k ∧ e.2.1.toInt ≤ u ∧ p.1.toInt < e.2.1.toInt then (e.2.1, e.2.2) else p
def isRd (l : List En) (k u : Int) (p : Int32 × Int32) : Prop := (∃ e ∈ l, e.1.toInt = k ∧ e.2.1.toInt ≤ u ∧ 0 < e.2.1.toInt ∧ (∀ e' ∈ l, e'.1.toInt = k → e'.2.1.toInt ≤ u → e'.2.1.toInt ≤ e.2.1.toInt) ∧ p = (e.2.1, e.2.2)) ∨ ((∀ e ∈ l, e.1.toInt = k → e.2.1.toInt ≤ u → ¬ 0 < e.2.1.toInt) ∧ p = (0, cNONE))
theorem isRd_step {l : List En} {k u : Int} {p : Int32 × Int32} (h : isRd l k u p) (e : En) : isRd (l ++ [e]) k u (rd1 k u p e) := by
  unfold rd1
  by_cases hc : e.1.toInt = k ∧ e.2.1.toInt ≤ u ∧ p.1.toInt < e.2.1.toInt
  · rw [if_pos hc]
    left
    rcases h with ⟨d, hd, h1, h2, h3, h4, rfl⟩ | ⟨h1, rfl⟩
    · have hc3 : d.2.1.toInt < e.2.1.toInt := hc.2.2
      refine ⟨e, by simp, hc.1, hc.2.1, by omega, fun e' he' h5 h6 => ?_, rfl⟩
      rcases List.mem_append.mp he' with h7 | h7
      · have := h4 e' h7 h5 h6
        omega
      · rw [List.mem_singleton.mp h7]
        exact Int.le_refl _
    · have hc3 : (0 : Int32).toInt < e.2.1.toInt := hc.2.2
      rw [tl_0] at hc3
      refine ⟨e, by simp, hc.1, hc.2.1, hc3, fun e' he' h5 h6 => ?_, rfl⟩
      rcases List.mem_append.mp he' with h7 | h7
      · have := h1 e' h7 h5 h6
        omega
      · rw [List.mem_singleton.mp h7]
        exact Int.le_refl _
  · rw [if_neg hc]
    rcases h with ⟨d, hd, h1, h2, h3, h4, rfl⟩ | ⟨h1, rfl⟩
    · left
      refine ⟨d, by simp [hd], h1, h2, h3, fun e' he' h5 h6 => ?_, rfl⟩
      rcases List.mem_append.mp he' with h7 | h7
      · exact h4 e' h7 h5 h6
      · rw [List.mem_singleton.mp h7] at h5 h6 ⊢
        exact Int.not_lt.mp (fun q => hc ⟨h5, h6, q⟩)
    · right
      refine ⟨fun e' he' h5 h6 h8 => ?_, rfl⟩
      rcases List.mem_append.mp he' with h7 | h7
      · exact h1 e' h7 h5 h6 h8
      · rw [List.mem_singleton.mp h7] at h5 h6 h8
        exact hc ⟨h5, h6, by rw [tl_0]; exact h8⟩
theorem isRd_fold (k u : Int) (l : List En) : ∀ (l0 : List En) (p : Int32 × Int32), isRd l0 k u p → isRd (l0 ++ l) k u (l.foldl (rd1 k u) p) := by
  induction l with
  | nil => intro l0 p h; rw [List.append_nil]; exact h
  | cons e l ih =>
    intro l0 p h
    have := ih (l0 ++ [e]) _ (isRd_step h e)
    rw [List.append_assoc] at this
    exact this
theorem isRd_all (k u : Int) (l : List En) : isRd l k u (l.foldl (rd1 k u) (0, cNONE)) := isRd_fold k u l [] _ (Or.inr ⟨fun e he => absurd he List.not_mem_nil, rfl⟩)
theorem isRd.read {l : List En} {k u : Int} {p : Int32 × Int32} (h : isRd l k u p) : isRead l k u p.2 := by
  rcases h with ⟨d, hd, h1, h2, h3, h4, rfl⟩ | ⟨h1, rfl⟩
  · exact Or.inl ⟨d, hd, h1, h2, h3, h4, rfl⟩
  · exact Or.inr ⟨h1, rfl⟩
/-- no number twice -/
def uqN (l : List En) : Prop := ∀ e ∈ l, ∀ e' ∈ l, e.2.1 = e'.2.1 → e = e'
theorem isRead.uniq {l : List En} {k u : Int} {v v' : Int32} (hu : uqN l) (h : isRead l k u v) (h' : isRead l k u v') : v = v' := by
  rcases h with ⟨d, hd, h1, h2, h3, h4, rfl⟩ | ⟨h1, rfl⟩
  · rcases h' with ⟨d', hd', g1, g2, g3, g4, rfl⟩ | ⟨g1, rfl⟩
    · have a := h4 d' hd' g1 g2
      have b := g4 d hd h1 h2
      rw [hu d hd d' hd' (tI_eq (by omega))]
    · exact absurd h3 (g1 d hd h1 h2)
  · rcases h' with ⟨d', hd', g1, g2, g3, g4, rfl⟩ | ⟨g1, rfl⟩
    · exact absurd g3 (h1 d' hd' g1 g2)
    · rfl
theorem readV_eq {l : List En} {k u : Int} {v : Int32} (hu : uqN l) (h : isRead l k u v) : readV l k u = v := (Classical.epsilon_spec (p := isRead l k u) ⟨v, h⟩).uniq hu h
theorem readV_fold {l : List En} {k u : Int} (hu : uqN l) : (l.foldl (rd1 k u) (0, cNONE)).2 = readV l k u := (readV_eq hu (isRd_all k u l).read).symm
/-- numbers above all change nothing -/
theorem readV_top {l : List En} {k u u' : Int} (hu : uqN l) (h : ∀ e ∈ l, e.2.1.toInt ≤ u) (h' : u ≤ u') : readV l k u = readV l k u' := by
  refine readV_eq hu ?_
  rcases (isRd_all k u' l).read with ⟨d, hd, h1, h2, h3, h4, h5⟩ | ⟨h1, h2⟩
  · rw [readV_fold hu] at h5
    exact Or.inl ⟨d, hd, h1, h d hd, h3, fun e he q1 q2 => h4 e he q1 (by omega), h5⟩
  · rw [readV_fold hu] at h2
    exact Or.inr ⟨fun e he q1 q2 => h1 e he q1 (by omega), h2⟩
theorem rdS_at {a b : Nat} {u : Int32} {w : NV} {e : En} {k : Nat} (ha : a ≤ k) (hb : k ≤ b) : ((rdS a b u w e).1 k, (rdS a b u w e).2 k) = rd1 k u.toInt (w.1 k, w.2 k) e := by
  unfold rdS rd1
  by_cases hk : e.1.toInt = k
  · by_cases hc : e.2.1.toInt ≤ u.toInt ∧ (w.1 k).toInt < e.2.1.toInt
    · rw [if_pos ⟨by omega, by omega, hc.1, by rw [hk, Int.toNat_natCast]; exact hc.2⟩, if_pos ⟨hk, hc⟩, hk, Int.toNat_natCast]
      simp [va_up]
    · rw [if_neg (fun q => hc ⟨q.2.2.1, by have := q.2.2.2; rw [hk, Int.toNat_natCast] at this; exact this⟩), if_neg (fun q => hc q.2)]
  · rw [if_neg (c := e.1.toInt = k ∧ _) (fun q => hk q.1)]
    split
    · have hne : k ≠ e.1.toInt.toNat := by omega
      simp only [va_up, if_neg hne]
    · rfl
theorem rdS_fold {a b : Nat} {u : Int32} {k : Nat} (ha : a ≤ k) (hb : k ≤ b) (l : List En) : ∀ w : NV, ((l.foldl (rdS a b u) w).1 k, (l.foldl (rdS a b u) w).2 k) = l.foldl (rd1 k u.toInt) (w.1 k, w.2 k) := by
  induction l with
  | nil => intro w; rfl
  | cons e l ih =>
    intro w
    rw [List.foldl_cons, List.foldl_cons, ih, rdS_at ha hb]
/-- keys between the first and the last -/
def kB (es : List En) : Prop := ∀ e ∈ es, (lk es).toInt ≤ e.1.toInt ∧ e.1.toInt ≤ (gk es).toInt
theorem rdF_eq {a b : Nat} {u : Int32} {F : FA} (hk : kB F.es) (w : NV) : rdF a b u w F = F.es.foldl (rdS a b u) w := by
  unfold rdF
  by_cases hc : (lk F.es).toInt ≤ b ∧ (a : Int) ≤ (gk F.es).toInt
  · rw [if_pos hc]
  · rw [if_neg hc]
    have key : ∀ l : List En, (∀ e ∈ l, e ∈ F.es) → l.foldl (rdS a b u) w = w := by
      intro l
      induction l with
      | nil => intro _; rfl
      | cons e l ih =>
        intro hl
        have he := hk e (hl e (by simp))
        rw [List.foldl_cons, show rdS a b u w e = w from if_neg (fun q => hc ⟨by omega, by omega⟩)]
        exact ih (fun x hx => hl x (by simp [hx]))
    exact (key F.es (fun _ h => h)).symm
theorem rdF_fold {a b : Nat} {u : Int32} (fs : List FA) (hk : ∀ F ∈ fs, kB F.es) : ∀ w : NV, fs.foldl (rdF a b u) w = (fs.flatMap FA.es).foldl (rdS a b u) w := by
  induction fs with
  | nil => intro w; rfl
  | cons F fs ih =>
    intro w
    rw [List.foldl_cons, rdF_eq (hk F (by simp)), ih (fun G hG => hk G (by simp [hG])), List.flatMap_cons, List.foldl_append]
def accR (a b : Nat) (u : Int32) (FS : Nat → List FA) (w : NV) : Nat → NV
  | 0 => w
  | t + 1 => (FS t).foldl (rdF a b u) (accR a b u FS w t)
theorem accR_all {a b : Nat} {u : Int32} {σ : St} (hk : ∀ k, k < 4 → ∀ F ∈ σ.FS k, kB F.es) (w : NV) : accR a b u σ.FS (σ.log.foldl (rdS a b u) w) 4 = (allE σ).foldl (rdS a b u) w := by
  simp only [accR, allE]
  rw [rdF_fold _ (hk 3 (by decide)), rdF_fold _ (hk 2 (by decide)), rdF_fold _ (hk 1 (by decide)), rdF_fold _ (hk 0 (by decide))]
  simp only [List.flatMap_append, List.foldl_append]
section RD
variable {σ : St} {n : Nat} {S : ab_SH} {R : ab_RR} {I : ab_II} {A : AC} {P : Nat → List Nat} {sp : List FA}
theorem s_readAll_loop (h : RC σ n S R I A P sp) {a b : Nat} {u : Int32} (hA : rd_A I a b u) (w : NV) (post : ab_Po) (hpost : ∀ I', ab_fr I I' [25, 26] → (I' 25, I' 26) = accR a b u σ.FS w 4 → post none (n, S, R, I')) :
    ∀ (d t : Nat) (y : Int32) (I1 : ab_II) (L : List (Nat × Value)), 4 = t + d → y = nI t → ab_fr I I1 [25, 26] → (I1 25, I1 26) = accR a b u σ.FS w t → ab_sub L [(0, .ref 3), (1, .ref 9), (2, .int 4), (3, .int y)] → wp 5 108 0 0 MX6_readAll 21 L [] (n, S, R, I1) post := by
  have hX := h.fx
  have z : (S 9).2 = 4 := hX.len (by decide)
  have o9 : ab_ok n S 9 11 := hX.ok (by decide)
  intro d
  induction d with
  | zero =>
    intro t y I1 L ht hy hf hw hL0
    refine wp_loc hL0 ?_
    have ey : y.toInt = t := by rw [hy, tI_n (by omega)]
    refine wp_iload_n (pc := 21) dX6_readAll_21 rfl ?_
    refine wp_iload_n (pc := 22) dX6_readAll_22 rfl ?_
    refine wp_icmp_ge (pc := 23) (tgt := 46) dX6_readAll_23 (by decide) (fun hc => ?_) (fun hc => ?_)
    · skip
      refine wp_retv (pc := 46) dX6_readAll_46 rfl ?_
      exact hpost I1 hf (by rw [hw, show t = 4 by omega])
    · rw [tl_4] at hc; omega
  | succ d ih =>
    intro t y I1 L ht hy hf hw hL0
    refine wp_loc hL0 ?_
    have ey : y.toInt = t := by rw [hy, tI_n (by omega)]
    have ec : y.toNatClampNeg = t := by rw [tI_c]; omega
    have h1 : RC σ n S R I1 A P sp := h.same (fun j hj => hf j (by simp at hj; simp; omega))
    obtain ⟨hL, hFl, hF⟩ := h1.lvk (k := t) (by omega) (by omega)
    have ofk := hF.1
    have hr : R 9 y.toNatClampNeg = some (fk t) := by rw [ec]; exact lv_ref hX (by omega)
    have hA1 : rd_A I1 a b u := hA.keep (hf 24 (by decide))
    have hxx := xk_in (k := t) (by omega)
    refine wp_iload_n (pc := 21) dX6_readAll_21 rfl ?_
    refine wp_iload_n (pc := 22) dX6_readAll_22 rfl ?_
    refine wp_icmp_ge (pc := 23) (tgt := 46) dX6_readAll_23 (by decide) (fun hc => ?_) (fun hc => ?_)
    · rw [tl_4] at hc; omega
    · skip
      first | refine wp_aload_n (pc := 26) dX6_readAll_26 rfl ?_ | refine wp_aload_nN (pc := 26) dX6_readAll_26 rfl ?_
      refine wp_iload_n (pc := 27) dX6_readAll_27 rfl ?_
      refine wp_aaload (pc := 28) dX6_readAll_28 (Or.inl o9) (in_I (by omega) (by rw [z]; omega)) (hr) ?_
      first | refine wp_astore (pc := 29) dX6_readAll_29 (by decide) rfl ?_ | refine wp_astoreN (pc := 29) dX6_readAll_29 (by decide) rfl ?_
      first | refine wp_aload (pc := 31) dX6_readAll_31 rfl ?_ | refine wp_aloadN (pc := 31) dX6_readAll_31 rfl ?_
      first | refine wp_aload_n (pc := 33) dX6_readAll_33 rfl ?_ | refine wp_aload_nN (pc := 33) dX6_readAll_33 rfl ?_
      refine wp_getR (pc := 34) dX6_readAll_34 fl_LevelStore_43 (by first | assumption | exact Fx.ok (by assumption) (by decide)) rfl (by first | assumption | exact Fx.ref (by assumption) rfl) ?_
      refine cv_LevelStore_277 (pc := 37) (s_X1_letRead hX hF (by omega) hL hFl hA1) rfl dX6_readAll_37 (by first | assumption | exact Fx.ok (by assumption) (by decide)) ⟨by decide, by decide, Nat.zero_le _, Nat.zero_le _⟩ (Nat.le_of_ble_eq_true rfl) (fun v h hp => ?_)
      obtain ⟨rfl, I2, rfl, hf2, hw2⟩ := hp
      refine wp_iinc (pc := 40) dX6_readAll_40 rfl (by decide) rfl ?_
      refine wp_goto (pc := 43) (tgt := 21) dX6_readAll_43 (by decide) ?_
      exact ih (t + 1) _ I2 _ (by omega) (by rw [hy]; exact nI_i1 t) (hf.tr1 hf2) (by rw [hw2, hw]; rfl) ⟨rfl, rfl, rfl, rfl, trivial⟩
theorem s_readAll (h : RC σ n S R I A P sp) (hl : σ.log.length ≤ 24) {a b : Nat} {u : Int32} (hA : rd_A I a b u) (hk : ∀ k, k < 4 → ∀ F ∈ σ.FS k, kB F.es) : wp 5 108 0 0 MX6_readAll 0 [(0, .ref 3)] [] (n, S, R, I) (fun v h => v = none ∧ ∃ I', h = (n, S, R, I') ∧ ab_fr I I' [25, 26] ∧ (I' 25, I' 26) = (allE σ).foldl (rdS a b u) (I 25, I 26)) := by
  have hX := h.fx
  have z : (S 9).2 = 4 := hX.len (by decide)
  have o9 : ab_ok n S 9 11 := hX.ok (by decide)
  obtain ⟨g, hg, hgl⟩ := h.lg
  first | refine wp_aload_n (pc := 0) dX6_readAll_0 rfl ?_ | refine wp_aload_nN (pc := 0) dX6_readAll_0 rfl ?_
  refine wp_getR (pc := 1) dX6_readAll_1 fl_LevelStore_43 (by first | assumption | exact Fx.ok (by assumption) (by decide)) rfl (by first | assumption | exact Fx.ref (by assumption) rfl) ?_
  first | refine wp_aload_n (pc := 4) dX6_readAll_4 rfl ?_ | refine wp_aload_nN (pc := 4) dX6_readAll_4 rfl ?_
  refine wp_getR (pc := 5) dX6_readAll_5 fl_LevelStore_14 (by first | assumption | exact Fx.ok (by assumption) (by decide)) rfl (by first | assumption | exact Fx.ref (by assumption) rfl) ?_
  refine cv_LevelStore_273 (pc := 8) (s_X3_take hX hX.log (by decide) hl hg hA) rfl dX6_readAll_8 (by first | assumption | exact Fx.ok (by assumption) (by decide)) ⟨by decide, by decide, Nat.zero_le _, Nat.zero_le _⟩ (Nat.le_of_ble_eq_true rfl) (fun v h hp => ?_)
  obtain ⟨rfl, I1, rfl, hf1, hw1⟩ := hp
  rw [hgl] at hw1
  first | refine wp_aload_n (pc := 11) dX6_readAll_11 rfl ?_ | refine wp_aload_nN (pc := 11) dX6_readAll_11 rfl ?_
  refine wp_getR (pc := 12) dX6_readAll_12 fl_LevelStore_25 (by first | assumption | exact Fx.ok (by assumption) (by decide)) rfl (by first | assumption | exact Fx.ref (by assumption) rfl) ?_
  first | refine wp_astore_n (pc := 15) dX6_readAll_15 (by decide) rfl ?_ | refine wp_astore_nN (pc := 15) dX6_readAll_15 (by decide) rfl ?_
  first | refine wp_aload_n (pc := 16) dX6_readAll_16 rfl ?_ | refine wp_aload_nN (pc := 16) dX6_readAll_16 rfl ?_
  first | refine wp_alen (pc := 17) dX6_readAll_17 (Or.inl (by assumption)) ?_ | refine wp_alen (pc := 17) dX6_readAll_17 (Or.inr (Or.inl (by assumption))) ?_ | refine wp_alen (pc := 17) dX6_readAll_17 (Or.inr (Or.inr (Or.inl (by assumption)))) ?_ | refine wp_alen (pc := 17) dX6_readAll_17 (Or.inr (Or.inr (Or.inr (by assumption)))) ?_
  rw [z]
  refine wp_istore_n (pc := 18) dX6_readAll_18 (by decide) rfl ?_
  refine wp_iconst (pc := 19) (v := 0) dX6_readAll_19 (by decide) ?_
  refine wp_istore_n (pc := 20) dX6_readAll_20 (by decide) rfl ?_
  exact s_readAll_loop (h.same (fun j hj => hf1 j (by simp at hj; simp; omega))) (hA.keep (hf1 24 (by decide))) _ _ (fun I' hf' hw' => ⟨rfl, I', rfl, hf1.tr1 hf', by rw [hw', hw1, accR_all hk]⟩) 4 0 _ I1 _ rfl rfl ab_fr.rf rfl ⟨rfl, rfl, rfl, rfl, trivial⟩
theorem s_readUpTo (h : RC σ n S R I A P sp) (hl : σ.log.length ≤ 24) (hk : ∀ k, k < 4 → ∀ F ∈ σ.FS k, kB F.es) (hu : uqN (allE σ)) {k : Int32} (hK : isK k) (u : Int32) : wp 6 132 0 0 MX6_readUpTo 0 [(0, .ref 3), (1, .int k), (2, .int u)] [] (n, S, R, I) (cP I n S R (readV (allE σ) k.toInt u.toInt, σ)) := by
  have hX := h.fx
  have h1 := hK.1
  have h2 := hK.2
  obtain ⟨m, hm, hkm⟩ : ∃ m : Nat, m ≤ 999 ∧ k.toInt = m := ⟨k.toInt.toNat, by omega, by omega⟩
  have ek : k = nI m := tI_N hkm
  subst ek
  have e : (nI m).toInt = m := hkm
  first | refine wp_aload_n (pc := 0) dX6_readUpTo_0 rfl ?_ | refine wp_aload_nN (pc := 0) dX6_readUpTo_0 rfl ?_
  refine wp_getR (pc := 1) dX6_readUpTo_1 fl_LevelStore_43 (by first | assumption | exact Fx.ok (by assumption) (by decide)) rfl (by first | assumption | exact Fx.ref (by assumption) rfl) ?_
  refine wp_iload_n (pc := 4) dX6_readUpTo_4 rfl ?_
  refine wp_iload_n (pc := 5) dX6_readUpTo_5 rfl ?_
  refine wp_iload_n (pc := 6) dX6_readUpTo_6 rfl ?_
  refine cv_LevelStore_94 (pc := 7) (s_X3_begin hX hm hm (by omega)) rfl dX6_readUpTo_7 (by first | assumption | exact Fx.ok (by assumption) (by decide)) ⟨by decide, by decide, Nat.zero_le _, Nat.zero_le _⟩ (Nat.le_of_ble_eq_true rfl) (fun v h hp => ?_)
  obtain ⟨rfl, I1, rfl, hf1, hA1, hz1⟩ := hp
  have hR1 : RC σ n S R I1 A P sp := h.same (fun j hj => hf1 j (by simp at hj; simp; omega))
  first | refine wp_aload_n (pc := 10) dX6_readUpTo_10 rfl ?_ | refine wp_aload_nN (pc := 10) dX6_readUpTo_10 rfl ?_
  refine cv_LevelStore_98 (pc := 11) (s_readAll hR1 hl hA1 hk) rfl dX6_readUpTo_11 (by first | assumption | exact Fx.ok (by assumption) (by decide)) ⟨by decide, by decide, Nat.zero_le _, Nat.zero_le _⟩ (Nat.le_of_ble_eq_true rfl) (fun v h hp => ?_)
  obtain ⟨rfl, I2, rfl, hf2, hw2⟩ := hp
  first | refine wp_aload_n (pc := 14) dX6_readUpTo_14 rfl ?_ | refine wp_aload_nN (pc := 14) dX6_readUpTo_14 rfl ?_
  refine wp_getR (pc := 15) dX6_readUpTo_15 fl_LevelStore_43 (by first | assumption | exact Fx.ok (by assumption) (by decide)) rfl (by first | assumption | exact Fx.ref (by assumption) rfl) ?_
  refine wp_iload_n (pc := 18) dX6_readUpTo_18 rfl ?_
  refine cv_LevelStore_270 (pc := 19) (s_X3_valueOf hX (hA1.keep (hf2 24 (by decide))) m (Nat.le_refl _) (Nat.le_refl _)) rfl dX6_readUpTo_19 (by first | assumption | exact Fx.ok (by assumption) (by decide)) ⟨by decide, by decide, Nat.zero_le _, Nat.zero_le _⟩ (Nat.le_of_ble_eq_true rfl) (fun v h hp => ?_)
  obtain ⟨rfl, rfl⟩ := hp
  refine wp_ret (pc := 22) dX6_readUpTo_22 rfl (by first | trivial | exact Or.inl rfl | exact Or.inr rfl | assumption) ?_
  refine ⟨?_, n, S, R, I2, A, P, sp, rfl, ab_ex.rf, hR1.same (fun j hj => hf2 j (by simp at hj; simp; omega)), fun j hj => by rw [hf2 j (by simp; omega), hf1 j (by simp; omega)]⟩
  have e2 := rdS_fold (a := m) (b := m) (u := u) (Nat.le_refl m) (Nat.le_refl m) (allE σ) (I1 25, I1 26)
  rw [← hw2] at e2
  have e3 : I2 26 m = ((allE σ).foldl (rd1 m u.toInt) (I1 25 m, I1 26 m)).2 := by rw [← e2]
  rw [e3, (hz1 m (Nat.le_refl _) (Nat.le_refl _)).1, (hz1 m (Nat.le_refl _) (Nat.le_refl _)).2, readV_fold hu, e]
end RD
