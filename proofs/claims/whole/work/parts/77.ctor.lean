/-! THE TWO OBJECTS ARE MADE -/
def fixR2 (j k : Nat) : Option Nat := if (j = 11 ∨ j = 13 ∨ j = 15 ∨ j = 17 ∨ j = 19 ∨ j = 38) ∧ k = 1 then some 0 else fixR j k
/-- so many cells are made; these references are still wanting -/
def Cr (sc : Nat × (Nat → Int32)) (m : Nat) (pd : List (Nat × Nat)) (S : ab_SH) (R : ab_RR) (I : ab_II) : Prop :=
  ((∀ j, 3 ≤ j → j < m → S j = fixS j) ∧ (∀ j k x, 3 ≤ j → j < m → (j, k) ∉ pd → fixR2 j k = some x → R j k = some x) ∧ ∀ j k, 3 ≤ j → j < m → j ≠ 8 → j ≠ 43 → I j k = 0) ∧ (8 < m → ∀ k, k < 3 → I 8 k = -1) ∧ (43 < m → ∀ k, k < 3 → I 43 k = -1) ∧ (S 2).2 = sc.1 ∧ I 2 = sc.2
section CT
variable {sc : Nat × (Nat → Int32)} {m n : Nat} {pd pd' : List (Nat × Nat)} {S : ab_SH} {R : ab_RR} {I : ab_II}
theorem Cr.ok (c : Cr sc m pd S R I) {j ci : Nat} (hj : 3 ≤ j ∧ j < m ∧ (fixS j).1 = ci) : ab_ok m S j ci := ⟨hj.1, hj.2.1, by rw [c.1.1 j hj.1 hj.2.1]; exact hj.2.2⟩
theorem Cr.len (c : Cr sc m pd S R I) {j l : Nat} (hj : 3 ≤ j ∧ j < m ∧ (fixS j).2 = l) : (S j).2 = l := by rw [c.1.1 j hj.1 hj.2.1]; exact hj.2.2
theorem Cr.new (c : Cr sc m pd S R I) {kd len : Nat} (hm : 3 ≤ m ∧ m ≠ 8 ∧ m ≠ 43) (hf : fixS m = (kd, len)) (h1 : ∀ k x, fixR2 m k = some x → (m, k) ∈ pd') (h2 : ∀ q ∈ pd, q ∈ pd') : Cr sc (m + 1) pd' (ab_nS S m kd len) (ab_nR R m) (ab_nI I m) := by
  obtain ⟨⟨c1, c2, c3⟩, c4, c5, c6, c7⟩ := c
  refine ⟨⟨fun j q1 q2 => ?_, fun j k x q1 q2 q3 q4 => ?_, fun j k q1 q2 q3 q4 => ?_⟩, fun q k hk => ?_, fun q k hk => ?_, ?_, ?_⟩
  · by_cases e : j = m
    · subst e; rw [ab_nS_at, hf]
    · rw [ab_nS_ne _ _ _ (by omega)]; exact c1 j q1 (by omega)
  · by_cases e : j = m
    · subst e; exact absurd (h1 k x q4) q3
    · rw [ab_nR_ne _ (by omega)]; exact c2 j k x q1 (by omega) (fun z => q3 (h2 _ z)) q4
  · by_cases e : j = m
    · subst e; show va_up I j (fun _ => 0) j k = 0; rw [up_at]
    · rw [ab_nI_ne _ (by omega)]; exact c3 j k q1 (by omega) q3 q4
  · rw [ab_nI_ne _ (by omega)]; exact c4 (by omega) k hk
  · rw [ab_nI_ne _ (by omega)]; exact c5 (by omega) k hk
  · rw [ab_nS_ne _ _ _ (by omega)]; exact c6
  · rw [ab_nI_ne _ (by omega)]; exact c7
/-- the cell of the three views -/
theorem Cr.newV (c : Cr sc m pd S R I) {len : Nat} (hm : m = 8 ∨ m = 43) (hf : fixS m = (9, len)) (h1 : ∀ k x, fixR2 m k = some x → (m, k) ∈ pd') (h2 : ∀ q ∈ pd, q ∈ pd') {a b d : Nat} (ha : a = 0) (hb : b = 1) (hd : d = 2) : Cr sc (m + 1) pd' (ab_nS S m 9 len) (ab_nR R m) (ab_u2 (ab_u2 (ab_u2 (ab_nI I m) m a (-1)) m b (-1)) m d (-1)) := by
  subst ha hb hd
  obtain ⟨⟨c1, c2, c3⟩, c4, c5, c6, c7⟩ := c
  have eo : ∀ j, j ≠ m → (ab_u2 (ab_u2 (ab_u2 (ab_nI I m) m 0 (-1)) m 1 (-1)) m 2 (-1)) j = I j := fun j hj => by
    rw [ab_u2_r _ _ hj, ab_u2_r _ _ hj, ab_u2_r _ _ hj]; exact up_ne hj
  have ev : ∀ k, k < 3 → (ab_u2 (ab_u2 (ab_u2 (ab_nI I m) m 0 (-1)) m 1 (-1)) m 2 (-1)) m k = -1 := fun k hk => by
    rcases (show k = 0 ∨ k = 1 ∨ k = 2 by omega) with rfl | rfl | rfl
    · rw [ab_u2_n _ _ (Or.inr (by decide)), ab_u2_n _ _ (Or.inr (by decide)), ab_u2_s]
    · rw [ab_u2_n _ _ (Or.inr (by decide)), ab_u2_s]
    · rw [ab_u2_s]
  refine ⟨⟨fun j q1 q2 => ?_, fun j k x q1 q2 q3 q4 => ?_, fun j k q1 q2 q3 q4 => ?_⟩, fun q k hk => ?_, fun q k hk => ?_, ?_, ?_⟩
  · by_cases e : j = m
    · subst e; rw [ab_nS_at, hf]
    · rw [ab_nS_ne _ _ _ (by omega)]; exact c1 j q1 (by omega)
  · by_cases e : j = m
    · subst e; exact absurd (h1 k x q4) q3
    · rw [ab_nR_ne _ (by omega)]; exact c2 j k x q1 (by omega) (fun z => q3 (h2 _ z)) q4
  · rw [eo j (by omega)]; exact c3 j k q1 (by omega) q3 q4
  · by_cases e : m = 8
    · subst e; exact ev k hk
    · rw [eo 8 (by omega)]; exact c4 (by omega) k hk
  · by_cases e : m = 43
    · subst e; exact ev k hk
    · rw [eo 43 (by omega)]; exact c5 (by omega) k hk
  · rw [ab_nS_ne _ _ _ (by omega)]; exact c6
  · rw [eo 2 (by omega)]; exact c7
theorem Cr.put (c : Cr sc m pd S R I) {r k x : Nat} (hf : fixR2 r k = some x) (h2 : ∀ q ∈ pd, q ≠ (r, k) → q ∈ pd') : Cr sc m pd' S (ab_u2 R r k (some x)) I := by
  obtain ⟨⟨c1, c2, c3⟩, c4⟩ := c
  refine ⟨⟨c1, fun j i y q1 q2 q3 q4 => ?_, c3⟩, c4⟩
  by_cases e : j = r ∧ i = k
  · obtain ⟨rfl, rfl⟩ := e
    rw [ab_u2_s]
    rw [hf] at q4; exact q4
  · rw [ab_u2_n _ _ (by omega)]
    exact c2 j i y q1 q2 (fun z => q3 (h2 _ z (fun w => e (by cases w; exact ⟨rfl, rfl⟩)))) q4
theorem cr_cut {fr lo mc ms pc : Nat} {M : ab_MT} {L : List (Nat × Value)} {st : List Value} {post : ab_Po} (c : Cr sc m pd S R I) (k : ∀ S R I, Cr sc m pd S R I → wp fr lo mc ms M pc L st (m, S, R, I) post) : wp fr lo mc ms M pc L st (m, S, R, I) post := k S R I c
/-- new ArrayList() -/
theorem s_AC_init {r : Nat} : wp 1 20 0 0 MJxa1e45_init_da8c8 0 [(0, .ref r)] [] (n, S, R, I) (fun v h => v = none ∧ h = (n, S, R, I)) := by
  first | refine wp_aload_n (pc := 0) dJxa1e45_init_da8c8_0 rfl ?_ | refine wp_aload_nN (pc := 0) dJxa1e45_init_da8c8_0 rfl ?_
  refine wp_objInit (pc := 1) dJxa1e45_init_da8c8_1 ml_AbstractCollection_1 im_objInit co_objInit (by decide) (Nat.le_of_ble_eq_true rfl) ?_
  refine wp_retv (pc := 4) dJxa1e45_init_da8c8_4 rfl ?_
  exact ⟨rfl, rfl⟩
theorem s_AbL_init {r : Nat} (hr : ab_ok n S r 0) : wp 2 40 0 0 MJxc12de_init_da8c8 0 [(0, .ref r)] [] (n, S, R, I) (fun v h => v = none ∧ h = (n, S, R, ab_u2 I r 0 0)) := by
  first | refine wp_aload_n (pc := 0) dJxc12de_init_da8c8_0 rfl ?_ | refine wp_aload_nN (pc := 0) dJxc12de_init_da8c8_0 rfl ?_
  refine cv_AbstractList_1 (pc := 1) (s_AC_init) rfl dJxc12de_init_da8c8_1 ⟨by decide, by decide, Nat.zero_le _, Nat.zero_le _⟩ (Nat.le_of_ble_eq_true rfl) (fun v h hp => ?_)
  obtain ⟨rfl, rfl⟩ := hp
  first | refine wp_aload_n (pc := 4) dJxc12de_init_da8c8_4 rfl ?_ | refine wp_aload_nN (pc := 4) dJxc12de_init_da8c8_4 rfl ?_
  refine wp_iconst (pc := 5) (v := 0) dJxc12de_init_da8c8_5 (by decide) ?_
  refine wp_putI (pc := 6) dJxc12de_init_da8c8_6 fl_AbstractList_7 (by assumption) rfl rfl (Or.inl rfl) ?_
  refine wp_retv (pc := 9) dJxc12de_init_da8c8_9 rfl ?_
  exact ⟨rfl, rfl⟩
theorem s_AL_init {r : Nat} (hr : ab_ok n S r 0) : wp 3 60 0 0 MJx4a65c_init_da8c8 0 [(0, .ref r)] [] (n, S, R, I) (fun v h => v = none ∧ h = (n, S, ab_u2 R r 1 (some 0), ab_u2 I r 0 0)) := by
  first | refine wp_aload_n (pc := 0) dJx4a65c_init_da8c8_0 rfl ?_ | refine wp_aload_nN (pc := 0) dJx4a65c_init_da8c8_0 rfl ?_
  refine cv_ArrayList_1 (pc := 1) (s_AbL_init hr) rfl dJx4a65c_init_da8c8_1 ⟨by decide, by decide, Nat.zero_le _, Nat.zero_le _⟩ (Nat.le_of_ble_eq_true rfl) (fun v h hp => ?_)
  obtain ⟨rfl, rfl⟩ := hp
  first | refine wp_aload_n (pc := 4) dJx4a65c_init_da8c8_4 rfl ?_ | refine wp_aload_nN (pc := 4) dJx4a65c_init_da8c8_4 rfl ?_
  refine wp_gets (pc := 5) dJx4a65c_init_da8c8_5 fl_static ?_
  refine wp_putR (pc := 8) dJx4a65c_init_da8c8_8 fl_ArrayList_9 (by assumption) rfl (Or.inl rfl) ?_
  refine wp_retv (pc := 11) dJx4a65c_init_da8c8_11 rfl ?_
  exact ⟨rfl, rfl⟩
theorem Cr.zero (c : Cr sc m pd S R I) {r k : Nat} (h : 3 ≤ r ∧ r < m ∧ r ≠ 8 ∧ r ≠ 43) : Cr sc m pd S R (ab_u2 I r k 0) := by
  obtain ⟨⟨c1, c2, c3⟩, c4, c5, c6, c7⟩ := c
  refine ⟨⟨c1, c2, fun j i q1 q2 q3 q4 => ?_⟩, fun q i hi => ?_, fun q i hi => ?_, c6, ?_⟩
  · by_cases e : j = r ∧ i = k
    · obtain ⟨rfl, rfl⟩ := e; rw [ab_u2_s]
    · rw [ab_u2_n _ _ (by omega)]; exact c3 j i q1 q2 q3 q4
  · rw [ab_u2_r _ _ (by omega)]; exact c4 q i hi
  · rw [ab_u2_r _ _ (by omega)]; exact c5 q i hi
  · rw [ab_u2_r _ _ (by omega)]; exact c7
/-- new FileRow() at r: its list comes next -/
theorem c_X1_init (c : Cr sc (m + 1) ((m, 0) :: pd) S R I) (hm : 9 ≤ m ∧ m < 38) (hf : fixS m = (2, 0)) (hf1 : fixS (m + 1) = (0, 0)) (h1 : ∀ k x, fixR2 (m + 1) k = some x → k = 1 ∧ x = 0) (h0 : fixR2 m 0 = some (m + 1)) (hd : ∀ q ∈ pd, q.1 < m) : wp 4 80 1 3 MX1_init 0 [(0, .ref m)] [] (m + 1, S, R, I) (fun v h => v = none ∧ ∃ S' R' I', h = (m + 1 + 1, S', R', I') ∧ Cr sc (m + 1 + 1) pd S' R' I') := by
  have o : ab_ok (m + 1) S m 2 := c.ok ⟨by omega, by omega, by rw [hf]⟩
  have c2 : Cr sc (m + 1 + 1) ((m + 1, 1) :: (m, 0) :: pd) (ab_nS S (m + 1) 0 0) (ab_nR R (m + 1)) (ab_nI I (m + 1)) := c.new ⟨by omega, by omega, by omega⟩ hf1 (fun k x q => by rw [(h1 k x q).1]; exact List.mem_cons_self) (fun q hq => List.mem_cons_of_mem _ hq)
  first | refine wp_aload_n (pc := 0) dX1_init_0 rfl ?_ | refine wp_aload_nN (pc := 0) dX1_init_0 rfl ?_
  refine wp_objInit (pc := 1) dX1_init_1 ml_FileRow_3 im_objInit co_objInit (by decide) (Nat.le_of_ble_eq_true rfl) ?_
  first | refine wp_aload_n (pc := 4) dX1_init_4 rfl ?_ | refine wp_aload_nN (pc := 4) dX1_init_4 rfl ?_
  refine wp_new (pc := 5) dX1_init_5 ab_k0 cl_FileRow_9 in_ArrayList ini_ArrayList (by decide) (by decide) ?_
  refine cr_cut c2 (fun S R I c => ?_)
  have o1 : ab_ok (m + 1 + 1) S (m + 1) 0 := c.ok ⟨by omega, by omega, by rw [hf1]⟩
  have o0 : ab_ok (m + 1 + 1) S m 2 := c.ok ⟨by omega, by omega, by rw [hf]⟩
  refine wp_dup (pc := 8) dX1_init_8 rfl ?_
  refine cv_FileRow_11 (pc := 9) (s_AL_init o1) rfl dX1_init_9 ⟨by decide, by decide, Nat.zero_le _, Nat.zero_le _⟩ (Nat.le_of_ble_eq_true rfl) (fun v h hp => ?_)
  obtain ⟨rfl, rfl⟩ := hp
  refine wp_putR (pc := 12) dX1_init_12 fl_FileRow_12 (by assumption) rfl (Or.inr ⟨rfl, rfl, rfl⟩) ?_
  refine wp_retv (pc := 15) dX1_init_15 rfl ?_
  refine ⟨rfl, _, _, _, rfl, ?_⟩
  have e1 : fixR2 (m + 1) 1 = some 0 := by
    have hs : ∀ j, j < 39 → 9 ≤ j → fixS j = (0, 0) → fixR2 j 1 = some 0 := by decide +kernel
    exact hs (m + 1) (by omega) (by omega) hf1
  refine Cr.put (pd := (m, 0) :: pd) (Cr.zero (Cr.put c e1 (fun q hq hne => ?_)) ⟨by omega, by omega, by omega, by omega⟩) h0 (fun q hq hne => ?_)
  · rcases List.mem_cons.mp hq with z | z
    · exact absurd z hne
    · exact z
  · rcases List.mem_cons.mp hq with z | z
    · exact absurd z hne
    · exact z
/-- new Row(len) at r: its three arrays come next -/
theorem Cr.row (c : Cr sc (m + 1) ((m, 0) :: (m, 1) :: (m, 2) :: pd) S R I) {cap : Nat} (hm : 3 < m ∧ m < 34) (h5 : (fixS m).1 = 5) (hne : m + 1 ≠ 8 ∧ m + 2 ≠ 8 ∧ m + 3 ≠ 8) (f1 : fixS (m + 1) = (9, cap)) (f2 : fixS (m + 2) = (9, cap)) (f3 : fixS (m + 3) = (9, cap)) (r0 : fixR2 m 0 = some (m + 1)) (r1 : fixR2 m 1 = some (m + 2)) (r2 : fixR2 m 2 = some (m + 3)) (z1 : ∀ k, fixR2 (m + 1) k = none) (z2 : ∀ k, fixR2 (m + 2) k = none) (z3 : ∀ k, fixR2 (m + 3) k = none) (hd : ∀ q ∈ pd, q.1 < m) {R' : ab_RR}
    (g0 : R' m 0 = some (m + 1)) (g1 : R' m 1 = some (m + 1 + 1)) (g2 : R' m 2 = some (m + 1 + 2)) (go : ∀ j, j < m + 1 → j ≠ m → R' j = R j) : Cr sc (m + 1 + 3) pd (ab_nS (ab_nS (ab_nS S (m + 1) 9 cap) (m + 1 + 1) 9 cap) (m + 1 + 2) 9 cap) R' (ab_nI (ab_nI (ab_nI I (m + 1)) (m + 1 + 1)) (m + 1 + 2)) := by
  have d1 := (((c.new (pd' := (m, 0) :: (m, 1) :: (m, 2) :: pd) ⟨by omega, by omega, by omega⟩ f1 (fun k x q => by rw [z1] at q; cases q) (fun _ q => q)).new (pd' := (m, 0) :: (m, 1) :: (m, 2) :: pd) ⟨by omega, by omega, by omega⟩ f2 (fun k x q => by rw [z2] at q; cases q) (fun _ q => q)).new (pd' := (m, 0) :: (m, 1) :: (m, 2) :: pd) ⟨by omega, by omega, by omega⟩ f3 (fun k x q => by rw [z3] at q; cases q) (fun _ q => q))
  obtain ⟨⟨a1, a2, a3⟩, a4⟩ := d1
  obtain ⟨⟨-, c2, -⟩, -⟩ := c
  refine ⟨⟨a1, fun j k x q1 q2 q3 q4 => ?_, a3⟩, a4⟩
  by_cases e : j = m
  · subst e
    by_cases k0 : k = 0
    · subst k0; rw [r0] at q4; cases q4; exact g0
    · by_cases k1 : k = 1
      · subst k1; rw [r1] at q4; cases q4; exact g1
      · by_cases k2 : k = 2
        · subst k2; rw [r2] at q4; cases q4; exact g2
        · exfalso
          have hk : ∀ j, j < 66 → (fixS j).1 = 5 → ∀ k, k < 50 → 2 < k → fixR2 j k = none := by decide +kernel
          by_cases kb : k < 50
          · rw [hk j (by omega) h5 k kb (by omega)] at q4; cases q4
          · unfold fixR2 at q4
            rw [if_neg (by omega)] at q4
            unfold fixR at q4
            have hl : ∀ j, j < 66 → (fixT j).length < 50 := by decide +kernel
            rw [List.getD_eq_getElem?_getD, List.getElem?_eq_none (by have := hl j (by omega); omega)] at q4
            cases q4
  · by_cases e1 : j < m + 1
    · rw [go j e1 e]
      refine c2 j k x q1 e1 (fun z => q3 ?_) q4
      simp only [List.mem_cons, Prod.mk.injEq] at z
      rcases z with z | z | z | z
      · omega
      · omega
      · omega
      · exact z
    · exfalso
      rcases (show j = m + 1 ∨ j = m + 2 ∨ j = m + 3 by omega) with rfl | rfl | rfl
      · rw [z1] at q4; cases q4
      · rw [z2] at q4; cases q4
      · rw [z3] at q4; cases q4
theorem noR {m : Nat} (h : fixT m = [] ∧ m ≠ 11 ∧ m ≠ 13 ∧ m ≠ 15 ∧ m ≠ 17 ∧ m ≠ 19 ∧ m ≠ 38) (k : Nat) : fixR2 m k = none := by
  unfold fixR2 fixR
  rw [if_neg (by omega), h.1]
  rfl
end CT
