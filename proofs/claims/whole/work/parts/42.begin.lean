/-! flush, merge -/
theorem loK_congr {f g : Nat → En} {V : Nat → Int32} {s : Nat} {t : Prop} (h : ∀ j, j < s → f j = g j) {k : Nat} (hk : k < s) : loK f V s t k ↔ loK g V s t k := by
  have hu : ∀ j, j < s → (unK f V j ↔ unK g V j) := by
    intro j hj
    unfold unK ffK seenK
    rw [h j hj, h (j - 1) (by omega)]
  unfold loK
  rw [hu k hk]
  have hcv : cvK f V s k ↔ cvK g V s k := by
    unfold cvK
    constructor
    · rintro ⟨j, h1, h2, h3, h4, h5⟩
      refine ⟨j, h1, h2, fun i h6 h7 => ?_, by rw [← hu j h2]; exact h4, by unfold gvK at h5 ⊢; rw [← h j h2]; exact h5⟩
      rw [← h i (by omega), ← h k hk]
      exact h3 i h6 h7
    · rintro ⟨j, h1, h2, h3, h4, h5⟩
      refine ⟨j, h1, h2, fun i h6 h7 => ?_, by rw [hu j h2]; exact h4, by unfold gvK at h5 ⊢; rw [h j h2]; exact h5⟩
      rw [h i (by omega), h k hk]
      exact h3 i h6 h7
  rw [hcv]
  unfold gvK
  rw [h k hk]
def idle (σ : St) : Prop := σ.job = false → σ.src = [] ∧ σ.don = 0 ∧ σ.mak = [] ∧ σ.FS 5 = []
theorem ins_len (e : En) (l : List En) : (ins e l).length = l.length + 1 := by
  have key : ∀ m : List En, (insR e m).length = m.length + 1 := by
    intro m
    induction m with
    | nil => rfl
    | cons x m ih =>
      rw [insR]
      split <;> simp [ih]
  simp [ins, key]
theorem fsrc_len (log : List En) : (fsrc log).length = log.length := by
  have key : ∀ (l m : List En), (l.foldl (fun l e => ins e l) m).length = l.length + m.length := by
    intro l
    induction l with
    | nil => intro m; simp
    | cons e l ih =>
      intro m
      rw [List.foldl_cons, ih, ins_len, List.length_cons]
      omega
  unfold fsrc
  rw [key]
  rfl
theorem fsrc_succ {log : List En} {t : Nat} (h : t < log.length) : fsrc (log.take (t + 1)) = ins (lfn log t) (fsrc (log.take t)) := by
  unfold fsrc
  rw [List.take_succ_eq_append_getElem h, List.foldl_append]
  unfold lfn
  rw [List.getD_eq_getElem?_getD, List.getElem?_eq_getElem h]
  rfl
section BG
variable {σ : St} {n : Nat} {S : ab_SH} {R : ab_RR} {I : ab_II} {A : AC} {P : Nat → List Nat} {sp : List FA}
/-- a job begins: what must be so of the job's cells -/
theorem RC.begun (h : RC σ n S R I A P sp) (hid : idle σ) (hj : σ.job = false) {I' : ab_II} {tgt lf lt tf tt : Nat} {src : List En} {f : Nat → En} (hk : ∀ j, j ∉ [27, 28, 29, 30, 31, 32] → I' j = I j) (h0 : I' 27 0 = 1) (h1 : I' 27 1 = nI tgt - 1) (h23 : tgt ≠ 0 → I' 27 2 = nI lf ∧ I' 27 3 = nI lt) (h4 : I' 27 4 = nI tgt) (h5 : I' 27 5 = nI tf) (h6 : I' 27 6 = nI tt) (h9 : I' 27 9 = I 27 9) (hr : rw_I I' 28 29 30 31 src.length f) (hrl : rl src.length f = src) (htg : tgt ≤ 3) (hb : ∀ k, k < src.length → bit (I' 32 k) (loK f (I 8) src.length ((I' 27 4).toInt = 3) k)) : RC (σ.beg tgt lf lt tf tt src) n S R I' A P sp := by
  obtain ⟨i1, i2, i3, i4⟩ := hid hj
  refine ⟨⟨h.fx, h.lF.keep (fun i hi => hk _ (by have := xk_in hi; simp; omega)) (fun j hj => hk j (by simp; omega)), h.tp⟩, ⟨h.lg.keep (hk _ (by decide)) (hk _ (by decide)) (hk _ (by decide)) (hk _ (by decide)), ?_, by rw [hk _ (by decide)]; exact h.v, by rw [hk _ (by decide)]; exact h.b, by rw [hk _ (by decide)]; exact h.tk⟩, ⟨h0, ?_, fun _ => ⟨h1, h23, h4, h5, h6⟩⟩, ⟨f, hr, hrl⟩, ?_, fun k hk2 => ?_⟩
  · have := h.c3
    unfold rC3 at this ⊢
    rw [hk 3 (by decide)]
    exact this
  · rw [h9, h.cj.2.1, i2]; rfl
  · have := h.mk.keep (hk _ (by decide)) (hk _ (by decide)) (hk _ (by decide)) (hk _ (by decide))
    rw [i3] at this
    exact this
  · refine (hb k hk2).iff ?_
    have e : (nI tgt).toInt = tgt := tI_n (by omega)
    rw [h4, e, h.v]
    have := loK_congr (f := f) (g := lfn src) (V := σ.V) (t := tgt = 3) (fun j hj => lfn_rl hrl hj) hk2
    refine Iff.trans ?_ this
    rw [show ((tgt : Int) = 3) = (tgt = 3) by rw [eq_iff_iff]; omega]
theorem s_filesL {FS : Nat → List FA} (hX : Fx n S R) (h : LF n S R I A P FS) {l : Int32} (hl : isLv l) : wp 2 40 0 0 MX6_files 0 [(0, .ref 3), (1, .int l)] [] (n, S, R, I) (fun w h => h = (n, S, R, I) ∧ w = some (.int (nI (FS l.toInt.toNat).length))) := by
  have h4 : l.toInt.toNat < 6 := by have := hl.1; have := hl.2; omega
  have hL := (h.1 _ h4).1
  have hF := hX.fr h4
  have ofk := hF.1
  first | refine wp_aload_n (pc := 0) dX6_files_0 rfl ?_ | refine wp_aload_nN (pc := 0) dX6_files_0 rfl ?_
  refine wp_iload_n (pc := 1) dX6_files_1 rfl ?_
  refine cv_LevelStore_146 (pc := 2) (s_levelAt hX hl) rfl dX6_files_2 (by first | assumption | exact Fx.ok (by assumption) (by decide)) ⟨by decide, by decide, Nat.zero_le _, Nat.zero_le _⟩ (Nat.le_of_ble_eq_true rfl) (fun v h hp => ?_)
  obtain ⟨rfl, rfl⟩ := hp
  first | refine wp_astore_n (pc := 5) dX6_files_5 (by decide) rfl ?_ | refine wp_astore_nN (pc := 5) dX6_files_5 (by decide) rfl ?_
  first | refine wp_aload_n (pc := 6) dX6_files_6 rfl ?_ | refine wp_aload_nN (pc := 6) dX6_files_6 rfl ?_
  refine wp_ifnonnull_r (pc := 7) (tgt := 15) dX6_files_7 (by decide) ?_
  first | refine wp_aload_n (pc := 15) dX6_files_15 rfl ?_ | refine wp_aload_nN (pc := 15) dX6_files_15 rfl ?_
  refine cv_LevelStore_154 (pc := 16) (s_X1_size hF hL) rfl dX6_files_16 (by first | assumption | exact Fx.ok (by assumption) (by decide)) ⟨by decide, by decide, Nat.zero_le _, Nat.zero_le _⟩ (Nat.le_of_ble_eq_true rfl) (fun v h hp => ?_)
  obtain ⟨rfl, rfl⟩ := hp
  refine wp_ret (pc := 19) dX6_files_19 rfl (by first | trivial | exact Or.inl rfl | exact Or.inr rfl | assumption) ?_
  exact ⟨rfl, by rw [(h.1 _ h4).2.1.1]⟩
theorem s_flush_loop (hX : Fx n S R) {log : List En} (hl : log.length ≤ 24) {I0 : ab_II} {g : Nat → En} (hg : rw_I I0 4 5 6 7 log.length g) (hgl : rl log.length g = log) (post : ab_Po)
    (hpost : ∀ I' f, ab_fr I0 I' [28, 29, 30, 31] → rw_I I' 28 29 30 31 (fsrc log).length f → rl (fsrc log).length f = fsrc log → ∀ L, ab_sub L [(0, .ref 3)] → wp 5 107 0 0 MX6_flush 111 L [] (n, S, R, I') post) :
    ∀ (d t : Nat) (y : Int32) (I : ab_II) (f : Nat → En) (L : List (Nat × Value)), log.length = t + d → y = nI t → ab_fr I0 I [28, 29, 30, 31] → rw_I I 28 29 30 31 (fsrc (log.take t)).length f → rl (fsrc (log.take t)).length f = fsrc (log.take t) → ab_sub L [(0, .ref 3), (1, .int y)] → wp 5 107 0 0 MX6_flush 60 L [] (n, S, R, I) post := by
  intro d
  induction d with
  | zero =>
    intro t y I f L ht hy hf hr hrl hL
    refine wp_loc hL ?_
    have ey : y.toInt = t := by rw [hy, tI_n (by omega)]
    have e0 : (I 4 3).toInt = log.length := by rw [hf 4 (by decide), hg.1, tI_n (by omega)]
    rw [show t = log.length by omega, List.take_length] at hr hrl
    refine wp_iload_n (pc := 60) dX6_flush_60 rfl ?_
    first | refine wp_aload_n (pc := 61) dX6_flush_61 rfl ?_ | refine wp_aload_nN (pc := 61) dX6_flush_61 rfl ?_
    refine wp_getR (pc := 62) dX6_flush_62 fl_LevelStore_14 (by first | assumption | exact Fx.ok (by assumption) (by decide)) rfl (by first | assumption | exact Fx.ref (by assumption) rfl) ?_
    refine wp_getI (pc := 65) dX6_flush_65 fl_LevelStore_66 (by first | assumption | exact Fx.ok (by assumption) (by decide)) rfl ?_
    refine wp_icmp_ge (pc := 68) (tgt := 111) dX6_flush_68 (by decide) (fun hc => ?_) (fun hc => ?_)
    · skip
      exact hpost I f hf hr hrl _ ⟨rfl, trivial⟩
    · omega
  | succ d ih =>
    intro t y I f L ht hy hf hr hrl hL
    refine wp_loc hL ?_
    have ey : y.toInt = t := by rw [hy, tI_n (by omega)]
    have e0 : (I 4 3).toInt = log.length := by rw [hf 4 (by decide), hg.1, tI_n (by omega)]
    have hg1 : rw_I I 4 5 6 7 log.length g := hg.keep hf (by decide) (by decide) (by decide) (by decide)
    have ht2 : t < log.length := by omega
    have e1 : rk_1 log.length g y = (lfn log t).1 := by rw [rk_1, if_pos (by omega), ey, Int.toNat_natCast, lfn_rl hgl ht2]
    have e2 : rk_2 log.length g y = (lfn log t).2.1 := by rw [rk_2, if_pos (by omega), ey, Int.toNat_natCast, lfn_rl hgl ht2]
    have e3 : rk_3 log.length g y = (lfn log t).2.2 := by rw [rk_3, if_pos (by omega), ey, Int.toNat_natCast, lfn_rl hgl ht2]
    have hsl : (fsrc (log.take t)).length = t := by rw [fsrc_len, List.length_take]; omega
    refine wp_iload_n (pc := 60) dX6_flush_60 rfl ?_
    first | refine wp_aload_n (pc := 61) dX6_flush_61 rfl ?_ | refine wp_aload_nN (pc := 61) dX6_flush_61 rfl ?_
    refine wp_getR (pc := 62) dX6_flush_62 fl_LevelStore_14 (by first | assumption | exact Fx.ok (by assumption) (by decide)) rfl (by first | assumption | exact Fx.ref (by assumption) rfl) ?_
    refine wp_getI (pc := 65) dX6_flush_65 fl_LevelStore_66 (by first | assumption | exact Fx.ok (by assumption) (by decide)) rfl ?_
    refine wp_icmp_ge (pc := 68) (tgt := 111) dX6_flush_68 (by decide) (fun hc => ?_) (fun hc => ?_)
    · omega
    · skip
      first | refine wp_aload_n (pc := 71) dX6_flush_71 rfl ?_ | refine wp_aload_nN (pc := 71) dX6_flush_71 rfl ?_
      refine wp_getR (pc := 72) dX6_flush_72 fl_LevelStore_50 (by first | assumption | exact Fx.ok (by assumption) (by decide)) rfl (by first | assumption | exact Fx.ref (by assumption) rfl) ?_
      refine wp_getR (pc := 75) dX6_flush_75 fl_LevelStore_124 (by first | assumption | exact Fx.ok (by assumption) (by decide)) rfl (by first | assumption | exact Fx.ref (by assumption) rfl) ?_
      first | refine wp_aload_n (pc := 78) dX6_flush_78 rfl ?_ | refine wp_aload_nN (pc := 78) dX6_flush_78 rfl ?_
      refine wp_getR (pc := 79) dX6_flush_79 fl_LevelStore_14 (by first | assumption | exact Fx.ok (by assumption) (by decide)) rfl (by first | assumption | exact Fx.ref (by assumption) rfl) ?_
      refine wp_iload_n (pc := 82) dX6_flush_82 rfl ?_
      refine cv_LevelStore_127 (pc := 83) (s_X4_key hX.log hg1 hl y) rfl dX6_flush_83 (by first | assumption | exact Fx.ok (by assumption) (by decide)) ⟨by decide, by decide, Nat.zero_le _, Nat.zero_le _⟩ (Nat.le_of_ble_eq_true rfl) (fun v h hp => ?_)
      obtain ⟨rfl, rfl⟩ := hp
      first | refine wp_aload_n (pc := 86) dX6_flush_86 rfl ?_ | refine wp_aload_nN (pc := 86) dX6_flush_86 rfl ?_
      refine wp_getR (pc := 87) dX6_flush_87 fl_LevelStore_14 (by first | assumption | exact Fx.ok (by assumption) (by decide)) rfl (by first | assumption | exact Fx.ref (by assumption) rfl) ?_
      refine wp_iload_n (pc := 90) dX6_flush_90 rfl ?_
      refine cv_LevelStore_130 (pc := 91) (s_X4_number hX.log hg1 hl y) rfl dX6_flush_91 (by first | assumption | exact Fx.ok (by assumption) (by decide)) ⟨by decide, by decide, Nat.zero_le _, Nat.zero_le _⟩ (Nat.le_of_ble_eq_true rfl) (fun v h hp => ?_)
      obtain ⟨rfl, rfl⟩ := hp
      first | refine wp_aload_n (pc := 94) dX6_flush_94 rfl ?_ | refine wp_aload_nN (pc := 94) dX6_flush_94 rfl ?_
      refine wp_getR (pc := 95) dX6_flush_95 fl_LevelStore_14 (by first | assumption | exact Fx.ok (by assumption) (by decide)) rfl (by first | assumption | exact Fx.ref (by assumption) rfl) ?_
      refine wp_iload_n (pc := 98) dX6_flush_98 rfl ?_
      refine cv_LevelStore_133 (pc := 99) (s_X4_value hX.log hg1 hl y) rfl dX6_flush_99 (by first | assumption | exact Fx.ok (by assumption) (by decide)) ⟨by decide, by decide, Nat.zero_le _, Nat.zero_le _⟩ (Nat.le_of_ble_eq_true rfl) (fun v h hp => ?_)
      obtain ⟨rfl, rfl⟩ := hp
      rw [e1, e2, e3]
      refine cv_LevelStore_136 (pc := 102) (s_X4_insert hX.src hr (by omega) _ _ _) rfl dX6_flush_102 (by first | assumption | exact Fx.ok (by assumption) (by decide)) ⟨by decide, by decide, Nat.zero_le _, Nat.zero_le _⟩ (Nat.le_of_ble_eq_true rfl) (fun v h hp => ?_)
      obtain ⟨rfl, I', g', rfl, hf', hr', hrl'⟩ := hp
      refine wp_iinc (pc := 105) dX6_flush_105 rfl (by decide) rfl ?_
      refine wp_goto (pc := 108) (tgt := 60) dX6_flush_108 (by decide) ?_
      have en : (fsrc (log.take (t + 1))).length = (fsrc (log.take t)).length + 1 := by rw [fsrc_succ ht2, ins_len]
      refine ih (t + 1) _ I' g' _ (by omega) (by rw [hy]; exact nI_i1 t) (hf.tr1 hf') (by rw [en]; exact hr') ?_ ⟨rfl, rfl, trivial⟩
      rw [en, fsrc_succ ht2, hrl', hrl]
theorem s_flush_tail (hX : Fx n S R) {s : Nat} {f : Nat → En} {post : ab_Po} (hs : s ≤ 750) (hr : rw_I I 28 29 30 31 s f) (hpost : ∀ I', ab_fr I I' [32] → (∀ k, k < s → bit (I' 32 k) (loK f (I 8) s ((I 27 4).toInt = 3) k)) → post (some (.int (I' 28 3 - I' 27 9))) (n, S, R, I')) :
    wp 5 107 0 0 MX6_flush 111 [(0, .ref 3)] [] (n, S, R, I) post := by
  first | refine wp_aload_n (pc := 111) dX6_flush_111 rfl ?_ | refine wp_aload_nN (pc := 111) dX6_flush_111 rfl ?_
  refine wp_getR (pc := 112) dX6_flush_112 fl_LevelStore_50 (by first | assumption | exact Fx.ok (by assumption) (by decide)) rfl (by first | assumption | exact Fx.ref (by assumption) rfl) ?_
  first | refine wp_aload_n (pc := 115) dX6_flush_115 rfl ?_ | refine wp_aload_nN (pc := 115) dX6_flush_115 rfl ?_
  refine wp_getR (pc := 116) dX6_flush_116 fl_LevelStore_18 (by first | assumption | exact Fx.ok (by assumption) (by decide)) rfl (by first | assumption | exact Fx.ref (by assumption) rfl) ?_
  refine cv_LevelStore_139 (pc := 119) (s_X2_decide hX hs hr) rfl dX6_flush_119 (by first | assumption | exact Fx.ok (by assumption) (by decide)) ⟨by decide, by decide, Nat.zero_le _, Nat.zero_le _⟩ (Nat.le_of_ble_eq_true rfl) (fun v h hp => ?_)
  obtain ⟨rfl, I', rfl, hf, hb⟩ := hp
  first | refine wp_aload_n (pc := 122) dX6_flush_122 rfl ?_ | refine wp_aload_nN (pc := 122) dX6_flush_122 rfl ?_
  refine wp_getR (pc := 123) dX6_flush_123 fl_LevelStore_50 (by first | assumption | exact Fx.ok (by assumption) (by decide)) rfl (by first | assumption | exact Fx.ref (by assumption) rfl) ?_
  refine cv_LevelStore_143 (pc := 126) (s_X2_left hX) rfl dX6_flush_126 (by first | assumption | exact Fx.ok (by assumption) (by decide)) ⟨by decide, by decide, Nat.zero_le _, Nat.zero_le _⟩ (Nat.le_of_ble_eq_true rfl) (fun v h hp => ?_)
  obtain ⟨rfl, rfl⟩ := hp
  refine wp_ret (pc := 129) dX6_flush_129 rfl (by first | trivial | exact Or.inl rfl | exact Or.inr rfl | assumption) ?_
  exact hpost I' hf hb
theorem s_flush (h : RC σ n S R I A P sp) (hid : idle σ) (hl : σ.log.length ≤ 24) : wp 5 107 0 0 MX6_flush 0 [(0, .ref 3)] [] (n, S, R, I) (cP I n S R σ.flush) := by
  have hX := h.fx
  obtain ⟨g, hg, hgl⟩ := h.lg
  have e0 : (I 4 3).toInt = σ.log.length := by rw [hg.1, tI_n (by omega)]
  have tm : (nI (0 : Nat)).toInt = 0 := by decide
  first | refine wp_aload_n (pc := 0) dX6_flush_0 rfl ?_ | refine wp_aload_nN (pc := 0) dX6_flush_0 rfl ?_
  refine wp_getR (pc := 1) dX6_flush_1 fl_LevelStore_50 (by first | assumption | exact Fx.ok (by assumption) (by decide)) rfl (by first | assumption | exact Fx.ref (by assumption) rfl) ?_
  refine wp_getI (pc := 4) dX6_flush_4 fl_LevelStore_108 (by first | assumption | exact Fx.ok (by assumption) (by decide)) rfl ?_
  refine wp_if_ne (pc := 7) (tgt := 20) dX6_flush_7 (by decide) (fun hc => ?_) (fun hc => ?_)
  · have hjt : σ.job = true := by cases q : σ.job <;> rw [h.cj.1, q] at hc <;> first | rfl | exact absurd rfl hc
    refine wp_ldc (pc := 20) (v := -1000003) dX6_flush_20 cn_LevelStore_107 ?_
    refine wp_ret (pc := 22) dX6_flush_22 rfl (by first | trivial | exact Or.inl rfl | exact Or.inr rfl | assumption) ?_
    first | exact cP.id2 h (by unfold St.flush; rw [if_pos (Or.inl hjt)]) | exact cP.id2 h (by unfold St.flush; rw [if_pos (Or.inr (List.length_eq_zero_iff.mp (by omega)))])
  · have hjf : σ.job = false := by cases q : σ.job <;> rw [h.cj.1, q] at hc <;> first | rfl | exact absurd hc (by decide)
    first | refine wp_aload_n (pc := 10) dX6_flush_10 rfl ?_ | refine wp_aload_nN (pc := 10) dX6_flush_10 rfl ?_
    refine wp_getR (pc := 11) dX6_flush_11 fl_LevelStore_14 (by first | assumption | exact Fx.ok (by assumption) (by decide)) rfl (by first | assumption | exact Fx.ref (by assumption) rfl) ?_
    refine wp_getI (pc := 14) dX6_flush_14 fl_LevelStore_66 (by first | assumption | exact Fx.ok (by assumption) (by decide)) rfl ?_
    refine wp_if_ne (pc := 17) (tgt := 23) dX6_flush_17 (by decide) (fun hc => ?_) (fun hc => ?_)
    · have hne : σ.log ≠ [] := fun q => by rw [e0, q] at hc; exact absurd rfl hc
      first | refine wp_aload_n (pc := 23) dX6_flush_23 rfl ?_ | refine wp_aload_nN (pc := 23) dX6_flush_23 rfl ?_
      refine wp_getR (pc := 24) dX6_flush_24 fl_LevelStore_50 (by first | assumption | exact Fx.ok (by assumption) (by decide)) rfl (by first | assumption | exact Fx.ref (by assumption) rfl) ?_
      refine wp_iconst (pc := 27) (v := -1) dX6_flush_27 (by decide) ?_
      refine wp_iconst (pc := 28) (v := 0) dX6_flush_28 (by decide) ?_
      refine cv_LevelStore_112 (pc := 29) (s_X2_begin hX (-1) 0) rfl dX6_flush_29 (by first | assumption | exact Fx.ok (by assumption) (by decide)) ⟨by decide, by decide, Nat.zero_le _, Nat.zero_le _⟩ (Nat.le_of_ble_eq_true rfl) (fun v h hp => ?_)
      obtain ⟨rfl, rfl⟩ := hp
      first | refine wp_aload_n (pc := 32) dX6_flush_32 rfl ?_ | refine wp_aload_nN (pc := 32) dX6_flush_32 rfl ?_
      refine wp_getR (pc := 33) dX6_flush_33 fl_LevelStore_50 (by first | assumption | exact Fx.ok (by assumption) (by decide)) rfl (by first | assumption | exact Fx.ref (by assumption) rfl) ?_
      first | refine wp_aload_n (pc := 36) dX6_flush_36 rfl ?_ | refine wp_aload_nN (pc := 36) dX6_flush_36 rfl ?_
      refine wp_iconst (pc := 37) (v := 0) dX6_flush_37 (by decide) ?_
      have hLF1 : LF n S R (ab_u2 (ab_u2 (ab_u2 I 27 0 1) 27 1 (-1)) 27 4 0) A P (va_up σ.FS 4 sp) := h.lF.keep (fun k hk => by have := xk_in hk; rw [ab_u2_r _ _ (by omega), ab_u2_r _ _ (by omega), ab_u2_r _ _ (by omega)]) (fun j hj => by rw [ab_u2_r _ _ (by omega), ab_u2_r _ _ (by omega), ab_u2_r _ _ (by omega)])
      refine cv_LevelStore_115 (pc := 38) (s_filesL hX hLF1 (l := 0) (by decide)) rfl dX6_flush_38 (by first | assumption | exact Fx.ok (by assumption) (by decide)) ⟨by decide, by decide, Nat.zero_le _, Nat.zero_le _⟩ (Nat.le_of_ble_eq_true rfl) (fun v h hp => ?_)
      obtain ⟨rfl, rfl⟩ := hp
      rw [show va_up σ.FS 4 sp (0 : Int32).toInt.toNat = σ.FS 0 from up_ne (by decide)]
      refine wp_putI (pc := 41) dX6_flush_41 fl_LevelStore_118 (by first | assumption | exact Fx.ok (by assumption) (by decide)) rfl rfl (Or.inl rfl) ?_
      first | refine wp_aload_n (pc := 44) dX6_flush_44 rfl ?_ | refine wp_aload_nN (pc := 44) dX6_flush_44 rfl ?_
      refine wp_getR (pc := 45) dX6_flush_45 fl_LevelStore_50 (by first | assumption | exact Fx.ok (by assumption) (by decide)) rfl (by first | assumption | exact Fx.ref (by assumption) rfl) ?_
      first | refine wp_aload_n (pc := 48) dX6_flush_48 rfl ?_ | refine wp_aload_nN (pc := 48) dX6_flush_48 rfl ?_
      refine wp_getR (pc := 49) dX6_flush_49 fl_LevelStore_50 (by first | assumption | exact Fx.ok (by assumption) (by decide)) rfl (by first | assumption | exact Fx.ref (by assumption) rfl) ?_
      refine wp_getI (pc := 52) dX6_flush_52 fl_LevelStore_118 (by first | assumption | exact Fx.ok (by assumption) (by decide)) rfl ?_
      rw [ab_u2_s]
      refine wp_putI (pc := 55) dX6_flush_55 fl_LevelStore_121 (by first | assumption | exact Fx.ok (by assumption) (by decide)) rfl rfl (Or.inl rfl) ?_
      refine wp_iconst (pc := 58) (v := 0) dX6_flush_58 (by decide) ?_
      refine wp_istore_n (pc := 59) dX6_flush_59 (by decide) rfl ?_
      refine s_flush_loop hX hl (g := g) (by exact hg) hgl _ (fun I' f hf hr hrl L hL => ?_) σ.log.length 0 _ _ (fun k => (I 29 k, I 30 k, I 31 k)) _ (by omega) rfl ab_fr.rf ⟨?_, fun k => ⟨rfl, rfl, rfl⟩⟩ rfl ⟨rfl, rfl, trivial⟩
      · refine wp_loc hL (s_flush_tail hX (by rw [fsrc_len]; omega) hr (fun I2 hf2 hb2 => ?_))
        have e27 : I2 27 = ab_u2 (ab_u2 (ab_u2 (ab_u2 (ab_u2 I 27 0 1) 27 1 (-1)) 27 4 0) 27 5 (nI (σ.FS 0).length)) 27 6 (nI (σ.FS 0).length) 27 := by rw [hf2 27 (by simp), hf 27 (by simp)]
        have hk2 : ∀ j, j ∉ [27, 28, 29, 30, 31, 32] → I2 j = I j := fun j hj => by
          simp only [List.mem_cons, List.not_mem_nil, or_false, not_or] at hj
          rw [hf2 j (by simp; omega), hf j (by simp; omega), ab_u2_r _ _ (by omega), ab_u2_r _ _ (by omega), ab_u2_r _ _ (by omega), ab_u2_r _ _ (by omega), ab_u2_r _ _ (by omega)]
        have hr2 : rw_I I2 28 29 30 31 (fsrc σ.log).length f := hr.keep hf2 (by decide) (by decide) (by decide) (by decide)
        have e8 : I' 8 = I 8 := by rw [hf 8 (by simp)]; rfl
        have e274 : I' 27 4 = I2 27 4 := by rw [hf2 27 (by simp)]
        have hRC := h.begun hid hjf (tgt := 0) (lf := 0) (lt := 0) (tf := (σ.FS 0).length) (tt := (σ.FS 0).length) hk2 (by rw [e27]; rfl) (by rw [e27]; rfl) (fun q => absurd rfl q) (by rw [e27]; rfl) (by rw [e27]; rfl) (by rw [e27]; rfl) (by rw [e27]; rfl) hr2 hrl (by decide) (fun k hk => by rw [← e274, ← e8]; exact hb2 k hk)
        have e28 : I2 28 3 - I2 27 9 = nI (fsrc σ.log).length := by
          rw [hRC.left (by show (fsrc σ.log).length ≤ 750; rw [fsrc_len]; omega) (Nat.zero_le _)]
          rfl
        rw [show σ.flush = (nI σ.log.length, σ.beg 0 0 0 (σ.FS 0).length (σ.FS 0).length (fsrc σ.log)) by unfold St.flush; rw [if_neg (fun q => q.elim (fun q => by rw [hjf] at q; cases q) hne)]]
        refine ⟨by rw [e28, fsrc_len], n, S, R, I2, A, P, sp, rfl, ab_ex.rf, hRC, fun j hj => hk2 j (by simp; omega)⟩
      · show I 28 3 = nI 0
        obtain ⟨f0, hf0, -⟩ := h.sr
        rw [hf0.1, (hid hjf).1]; rfl
    · skip
      refine wp_ldc (pc := 20) (v := -1000003) dX6_flush_20 cn_LevelStore_107 ?_
      refine wp_ret (pc := 22) dX6_flush_22 rfl (by first | trivial | exact Or.inl rfl | exact Or.inr rfl | assumption) ?_
      first | exact cP.id2 h (by unfold St.flush; rw [if_pos (Or.inl hjt)]) | exact cP.id2 h (by unfold St.flush; rw [if_pos (Or.inr (List.length_eq_zero_iff.mp (by omega)))])
end BG
