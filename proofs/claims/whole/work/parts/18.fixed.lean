/-! WHAT IS MADE AT THE START, by its number -/
def fixL : List (Nat × Nat) := [(0, 0), (0, 0), (0, 0), (7, 0), (5, 0), (9, 24), (9, 24), (9, 24), (9, 3), (11, 4), (2, 0), (0, 0), (2, 0), (0, 0), (2, 0), (0, 0), (2, 0), (0, 0), (2, 0), (0, 0), (1, 0), (9, 1500), (10, 1500), (9, 194), (4, 0), (9, 1000), (9, 1000), (3, 0), (5, 0), (9, 750), (9, 750), (9, 750), (10, 750), (5, 0), (9, 24), (9, 24), (9, 24), (2, 0), (0, 0), (8, 0), (9, 24), (9, 24), (9, 24), (9, 3), (9, 330), (9, 330), (9, 330), (9, 330), (9, 330), (9, 9900), (9, 9900), (9, 9900), (9, 1500), (9, 330), (9, 1200), (9, 1200), (9, 1200), (10, 330), (9, 3), (9, 40), (9, 40), (9, 40), (9, 600), (9, 40), (9, 40), (9, 40)]
def fixS (j : Nat) : Nat × Nat := fixL.getD j (0, 0)
def fixT (j : Nat) : List (Option Nat) := match j with
  | 3 => [some 4, none, none, some 8, some 9, some 18, some 20, some 24, some 27]
  | 4 => [some 5, some 6, some 7]
  | 9 => [some 10, some 12, some 14, some 16]
  | 10 => [some 11]
  | 12 => [some 13]
  | 14 => [some 15]
  | 16 => [some 17]
  | 18 => [some 19]
  | 20 => [some 21, some 22, some 23]
  | 24 => [some 25, some 26]
  | 27 => [none, none, none, none, none, none, none, some 28, some 32, none, some 33, some 37]
  | 28 => [some 29, some 30, some 31]
  | 33 => [some 34, some 35, some 36]
  | 37 => [some 38]
  | 39 => [none, none, none, some 40, some 41, some 42, none, some 43, some 44, some 45, some 46, some 47, some 48, some 49, some 50, some 51, none, some 52, none, some 53, none, none, none, none, some 54, some 55, some 56, some 57, some 58, none, none, none, none, some 59, some 60, some 61, none, some 62, some 63, some 64, some 65]
  | _ => []
def fixR (j k : Nat) : Option Nat := (fixT j).getD k none
def Fx (n : Nat) (S : ab_SH) (R : ab_RR) : Prop := 66 ≤ n ∧ (∀ j, 3 ≤ j → j < 66 → S j = fixS j) ∧ ∀ j k x, fixR j k = some x → R j k = some x
theorem Fx.ok {n : Nat} {S : ab_SH} {R : ab_RR} {j ci : Nat} (h : Fx n S R) (hj : 3 ≤ j ∧ j < 66 ∧ (fixS j).1 = ci) : ab_ok n S j ci := ⟨hj.1, Nat.lt_of_lt_of_le hj.2.1 h.1, by rw [h.2.1 j hj.1 hj.2.1]; exact hj.2.2⟩
theorem Fx.ref {n : Nat} {S : ab_SH} {R : ab_RR} {j k x : Nat} (h : Fx n S R) (hj : fixR j k = some x) : R j k = some x := h.2.2 j k x hj
theorem Fx.len {n : Nat} {S : ab_SH} {R : ab_RR} {j len : Nat} (h : Fx n S R) (hj : 3 ≤ j ∧ j < 66 ∧ (fixS j).2 = len) : (S j).2 = len := by rw [h.2.1 j hj.1 hj.2.1]; exact hj.2.2
theorem fixT_big {j : Nat} (h : fixT j ≠ []) : 3 ≤ j ∧ j < 66 ∧ (fixS j).1 ≠ 0 ∧ (fixS j).1 ≠ 12 := by
  have key : ∀ j, j < 66 → fixT j ≠ [] → 3 ≤ j ∧ j < 66 ∧ (fixS j).1 ≠ 0 ∧ (fixS j).1 ≠ 12 := by decide +kernel
  by_cases hj : j < 66
  · exact key j hj h
  · exfalso
    apply h
    unfold fixT
    split <;> first | omega | rfl
theorem Fx.ex {n n' : Nat} {S S' : ab_SH} {R R' : ab_RR} (h : Fx n S R) (he : ab_ex n S R n' S' R') : Fx n' S' R' := by
  obtain ⟨h1, h2, h3⟩ := h
  refine ⟨Nat.le_trans h1 he.1, fun j ha hb => ?_, fun j k x hx => ?_⟩
  · rw [he.2.1 j (by omega), h2 j ha hb]
  · have hT : fixT j ≠ [] := fun q => by unfold fixR at hx; rw [q] at hx; simp at hx
    obtain ⟨a1, a2, a3, a4⟩ := fixT_big hT
    have e : S j = fixS j := h2 j a1 a2
    rw [he.2.2 j a1 (by omega) (by rw [e]; exact a3) (by rw [e]; exact a4)]
    exact h3 j k x hx
section FIX
variable {n : Nat} {S : ab_SH} {R : ab_RR} {I : ab_II} (hX : Fx n S R)
theorem Fx.log (hX : Fx n S R) : rw_S n S R 4 5 6 7 24 := ⟨hX.ok (by decide), hX.ref rfl, hX.ref rfl, hX.ref rfl, hX.ok (by decide), hX.ok (by decide), hX.ok (by decide), hX.len (by decide), hX.len (by decide), hX.len (by decide), by decide, by decide, by decide, by decide⟩
theorem Fx.src (hX : Fx n S R) : rw_S n S R 28 29 30 31 750 := ⟨hX.ok (by decide), hX.ref rfl, hX.ref rfl, hX.ref rfl, hX.ok (by decide), hX.ok (by decide), hX.ok (by decide), hX.len (by decide), hX.len (by decide), hX.len (by decide), by decide, by decide, by decide, by decide⟩
theorem Fx.mak (hX : Fx n S R) : rw_S n S R 33 34 35 36 24 := ⟨hX.ok (by decide), hX.ref rfl, hX.ref rfl, hX.ref rfl, hX.ok (by decide), hX.ok (by decide), hX.ok (by decide), hX.len (by decide), hX.len (by decide), hX.len (by decide), by decide, by decide, by decide, by decide⟩
end FIX
theorem sf_I.keep {I I' : ab_II} {q : Nat} {F : FA} (h : sf_I I q F) (hk : ∀ j, q ≤ j → j ≤ q + 4 → I' j = I j) : sf_I I' q F := by
  obtain ⟨h1, h2, h3, h4, f, hf, hr⟩ := h
  refine ⟨by rw [hk q (by omega) (by omega)]; exact h1, by rw [hk q (by omega) (by omega)]; exact h2, by rw [hk q (by omega) (by omega)]; exact h3, h4, f, ⟨by rw [hk _ (by omega) (by omega)]; exact hf.1, fun k => ?_⟩, hr⟩
  rw [hk _ (by omega) (by omega), hk _ (by omega) (by omega), hk _ (by omega) (by omega)]
  exact hf.2 k
theorem fl_I.keep {n : Nat} {S : ab_SH} {R : ab_RR} {I I' : ab_II} {l : List Nat} {fs : List FA} (h : fl_I n S R I l fs) (hk : ∀ j, 66 ≤ j → I' j = I j) : fl_I n S R I' l fs := by
  refine ⟨h.1, fun i q F hq hF => ?_⟩
  obtain ⟨a, b⟩ := h.2 i q F hq hF
  exact ⟨a, b.keep (fun j h1 _ => hk j (Nat.le_trans a.1 h1))⟩
theorem al_L.keepI {n : Nat} {S : ab_SH} {R : ab_RR} {I I' : ab_II} {x arr cap : Nat} {l : List Nat} (h : al_L n S R I x arr cap l) (hk : I' x = I x) : al_L n S R I' x arr cap l := by
  obtain ⟨h1, h2, h3, h4⟩ := h
  exact ⟨h1, h2, by rw [hk]; exact h3, h4⟩
section MRG
variable {n : Nat} {S : ab_SH} {R : ab_RR} {x arr cap : Nat} {l : List Nat} {r : Nat} {fs : List FA}
def mgF (m : List En) (F : FA) : List En := mrg m F.es
theorem mR_len : ∀ (xs ys : List En), (mR xs ys).length = xs.length + ys.length
  | [], ys => by simp [mR]
  | x :: xs, [] => by simp [mR]
  | x :: xs, y :: ys => by
    rw [mR]
    split
    · simp only [List.length_cons, mR_len xs (y :: ys)]; omega
    · simp only [List.length_cons, mR_len (x :: xs) ys]; omega
  termination_by xs ys => xs.length + ys.length
theorem mrg_len (a b : List En) : (mrg a b).length = a.length + b.length := by simp [mrg, mR_len]
theorem s_X1_mergeInto_loop (hF : fr_S n S R r x) (hx : x < 66 ∧ x ≠ 28 ∧ x ≠ 29 ∧ x ≠ 30 ∧ x ≠ 31) (hX : Fx n S R) (a b : Nat) (hb : b ≤ l.length) (w : Int32) (post : ab_Po) {I0 : ab_II} (hL : al_L n S R I0 x arr cap l) (hFl : fl_I n S R I0 l fs) (es : List En)
    (htot : (((fs.take b).drop a).foldl mgF es).length ≤ 750)
    (hpost : ∀ I' g, ab_fr I0 I' [28, 29, 30, 31] → rw_I I' 28 29 30 31 (((fs.take b).drop a).foldl mgF es).length g → rl (((fs.take b).drop a).foldl mgF es).length g = ((fs.take b).drop a).foldl mgF es → post none (n, S, R, I')) :
    ∀ (d t : Nat) (y : Int32) (I : ab_II) (g : Nat → En), b = t + d → a ≤ t → y = nI t → ab_fr I0 I [28, 29, 30, 31] → rw_I I 28 29 30 31 (((fs.take t).drop a).foldl mgF es).length g → rl (((fs.take t).drop a).foldl mgF es).length g = ((fs.take t).drop a).foldl mgF es → wp 4 93 0 0 MX1_mergeInto 3 [(0, .ref r), (1, .ref 28), (2, .int w), (3, .int (nI b)), (4, .int y)] [] (n, S, R, I) post := by
  have o := hF.1
  have hlen := hL.2.2.2.1
  have hcap := hL.2.2.2.2.1
  have eb : (nI b).toInt = b := tI_n (by omega)
  have o28 : ab_ok n S 28 5 := hX.ok (by decide)
  have mono : ∀ d t, b = t + d → a ≤ t → (((fs.take t).drop a).foldl mgF es).length ≤ (((fs.take b).drop a).foldl mgF es).length := by
    intro d
    induction d with
    | zero => intro t ht _; rw [show t = b by omega]; exact Nat.le_refl _
    | succ d ih =>
      intro t ht ha
      refine Nat.le_trans ?_ (ih (t + 1) (by omega) (by omega))
      obtain ⟨q, F, hq, hFF, -⟩ := fl_at hFl (t := t) (by omega)
      rw [fdd_succ ha hFF, mgF, mrg_len]
      exact Nat.le_add_right _ _
  intro d
  induction d with
  | zero =>
    intro t y I g ht ha hy hf hr hrl
    have ey : y.toInt = t := by rw [hy, tI_n (by omega)]
    have hbt : t = b := by omega
    subst hbt
    refine wp_iload (pc := 3) dX1_mergeInto_3 rfl ?_
    refine wp_iload_n (pc := 5) dX1_mergeInto_5 rfl ?_
    refine wp_icmp_ge (pc := 6) (tgt := 37) dX1_mergeInto_6 (by decide) (fun hc => ?_) (fun hc => ?_)
    · skip
      refine wp_retv (pc := 37) dX1_mergeInto_37 rfl ?_
      exact hpost I g hf hr hrl
    · omega
  | succ d ih =>
    intro t y I g ht ha hy hf hr hrl
    have ey : y.toInt = t := by rw [hy, tI_n (by omega)]
    have hL' : al_L n S R I x arr cap l := hL.keepI (hf x (by simp; omega))
    have hFl' : fl_I n S R I l fs := hFl.keep (fun j hj => hf j (by simp; omega))
    obtain ⟨q, F, hq, hFF, hS, hI⟩ := fl_at hFl' (t := t) (by omega)
    have oq := hS.2.1
    have rq := hS.2.2.1
    have h66 := hS.1
    obtain ⟨-, -, -, hle, f, hff, hrlf⟩ := hI
    have hm := mono d (t + 1) (by omega) (by omega)
    have e := fdd_succ (f := mgF) (b := es) ha hFF
    rw [e, mgF, mrg_len] at hm
    refine wp_iload (pc := 3) dX1_mergeInto_3 rfl ?_
    refine wp_iload_n (pc := 5) dX1_mergeInto_5 rfl ?_
    refine wp_icmp_ge (pc := 6) (tgt := 37) dX1_mergeInto_6 (by decide) (fun hc => ?_) (fun hc => ?_)
    · omega
    · skip
      first | refine wp_aload_n (pc := 9) dX1_mergeInto_9 rfl ?_ | refine wp_aload_nN (pc := 9) dX1_mergeInto_9 rfl ?_
      refine wp_iload (pc := 10) dX1_mergeInto_10 rfl ?_
      refine cv_FileRow_42 (pc := 12) (s_X1_at hF hL' y) rfl dX1_mergeInto_12 (by assumption) ⟨by decide, by decide, Nat.zero_le _, Nat.zero_le _⟩ (Nat.le_of_ble_eq_true rfl) (fun v h hp => ?_)
      obtain ⟨rfl, rfl⟩ := hp
      rw [atV_at ey hq]
      first | refine wp_astore (pc := 15) dX1_mergeInto_15 (by decide) rfl ?_ | refine wp_astoreN (pc := 15) dX1_mergeInto_15 (by decide) rfl ?_
      first | refine wp_aload (pc := 17) dX1_mergeInto_17 rfl ?_ | refine wp_aloadN (pc := 17) dX1_mergeInto_17 rfl ?_
      refine wp_ifnull_r (pc := 19) dX1_mergeInto_19 ?_
      first | refine wp_aload_n (pc := 22) dX1_mergeInto_22 rfl ?_ | refine wp_aload_nN (pc := 22) dX1_mergeInto_22 rfl ?_
      first | refine wp_aload (pc := 23) dX1_mergeInto_23 rfl ?_ | refine wp_aloadN (pc := 23) dX1_mergeInto_23 rfl ?_
      refine wp_getR (pc := 25) dX1_mergeInto_25 fl_FileRow_61 (by assumption) rfl (by assumption) ?_
      refine cv_FileRow_65 (pc := 28) (s_X4_mergeIn hX.src hr (by omega) hS.2.2.2 hff hle (by simp; omega)) rfl dX1_mergeInto_28 (by assumption) ⟨by decide, by decide, Nat.zero_le _, Nat.zero_le _⟩ (Nat.le_of_ble_eq_true rfl) (fun v h hp => ?_)
      obtain ⟨rfl, I', g', rfl, hf', hr', hrl'⟩ := hp
      rw [hrl, hrlf] at hrl'
      refine wp_iinc (pc := 31) dX1_mergeInto_31 rfl (by decide) rfl ?_
      refine wp_goto (pc := 34) (tgt := 3) dX1_mergeInto_34 (by decide) ?_
      refine wp_loc (L' := [(0, .ref r), (1, .ref 28), (2, .int w), (3, .int (nI b)), (4, .int (y + Int32.ofInt 1))]) ⟨rfl, rfl, rfl, rfl, rfl, trivial⟩ ?_
      refine ih (t + 1) _ I' g' (by omega) (by omega) (by rw [hy]; exact nI_i1 t) (hf.tr1 hf') ?_ ?_
      · rw [e, mgF, mrg_len]
        exact hr'
      · rw [e, mgF, mrg_len]
        exact hrl'
theorem s_X1_mergeInto (hF : fr_S n S R r x) (hx : x < 66 ∧ x ≠ 28 ∧ x ≠ 29 ∧ x ≠ 30 ∧ x ≠ 31) (hX : Fx n S R) (a b : Nat) (hab : a ≤ b) (hb : b ≤ l.length) {I : ab_II} (hL : al_L n S R I x arr cap l) (hFl : fl_I n S R I l fs) (es : List En) (g : Nat → En) (hr : rw_I I 28 29 30 31 es.length g) (hrl : rl es.length g = es) (htot : (((fs.take b).drop a).foldl mgF es).length ≤ 750) :
    wp 4 93 0 0 MX1_mergeInto 0 [(0, .ref r), (1, .ref 28), (2, .int (nI a)), (3, .int (nI b))] [] (n, S, R, I) (fun v h => v = none ∧ ∃ I' g, h = (n, S, R, I') ∧ ab_fr I I' [28, 29, 30, 31] ∧ rw_I I' 28 29 30 31 (((fs.take b).drop a).foldl mgF es).length g ∧ rl (((fs.take b).drop a).foldl mgF es).length g = ((fs.take b).drop a).foldl mgF es) := by
  have e0 : ((fs.take a).drop a).foldl mgF es = es := by rw [List.drop_eq_nil_of_le (by simp; omega)]; rfl
  refine wp_iload_n (pc := 0) dX1_mergeInto_0 rfl ?_
  refine wp_istore (pc := 1) dX1_mergeInto_1 (by decide) rfl ?_
  refine wp_loc (L' := [(0, .ref r), (1, .ref 28), (2, .int (nI a)), (3, .int (nI b)), (4, .int (nI a))]) ⟨rfl, rfl, rfl, rfl, rfl, trivial⟩ ?_
  refine s_X1_mergeInto_loop hF hx hX a b hb _ _ hL hFl es htot (fun I' g h1 h2 h3 => ⟨rfl, I', g, rfl, h1, h2, h3⟩) (b - a) a _ I g (by omega) (Nat.le_refl a) rfl ab_fr.rf ?_ ?_
  · rw [e0]; exact hr
  · rw [e0]; exact hrl
end MRG
