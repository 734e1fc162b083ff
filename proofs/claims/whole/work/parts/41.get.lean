/-! get, view, next, count, high, check -/
def FOK (B : Nat → Int32) (F : FA) : Prop := vk F.es ∧ F.es ≠ [] ∧ F.2.1 = nI (pl F) ∧ F.2.2.1 = nI (enc F.es).length ∧ pl F + (enc F.es).length ≤ 1500 ∧ ∀ (j b : Nat), (enc F.es)[j]? = some b → B (pl F + j) = nI b
section GT
variable {σ : St} {n : Nat} {S : ab_SH} {R : ab_RR} {I : ab_II} {A : AC} {P : Nat → List Nat} {sp : List FA}
theorem cP.out {a : Int32 × St} {v : Option Value} {h : ab_M} (hp : cP I n S R a v h) : ∃ n' S' R' I' A' P' sp', v = some (.int a.1) ∧ h = (n', S', R', I') ∧ ab_ex n S R n' S' R' ∧ RC a.2 n' S' R' I' A' P' sp' ∧ kM I I' := by
  obtain ⟨h0, n', S', R', I', A', P', sp', h1, h2⟩ := hp
  exact ⟨n', S', R', I', A', P', sp', h0, h1, h2⟩
theorem s_get1 (h : RC σ n S R I A P sp) (hl : σ.log.length ≤ 24) (hn : σ.num ≤ 60000) (hk : ∀ k, k < 4 → ∀ F ∈ σ.FS k, kB F.es) (hu : uqN (allE σ)) (k : Int32) : wp 7 154 0 0 MX6_get 0 [(0, .ref 3), (1, .int k)] [] (n, S, R, I) (cP I n S R (σ.get k)) := by
  have hX := h.fx
  have en : (I 3 2).toInt = σ.num := by rw [h.c3.2.1, tI_n (by omega)]
  refine wp_iload_n (pc := 0) dX6_get_0 rfl ?_
  refine cv_LevelStore_54 (pc := 1) (s_isKey k) rfl dX6_get_1 ⟨by decide, by decide, Nat.zero_le _, Nat.zero_le _⟩ (Nat.le_of_ble_eq_true rfl) (fun v h hp => ?_)
  obtain ⟨rfl, rfl⟩ := hp
  refine wp_if_ne (pc := 4) (tgt := 10) dX6_get_4 (by decide) (fun hc => ?_) (fun hc => ?_)
  · have hK := ite01n hc
    first | refine wp_aload_n (pc := 10) dX6_get_10 rfl ?_ | refine wp_aload_nN (pc := 10) dX6_get_10 rfl ?_
    refine wp_iload_n (pc := 11) dX6_get_11 rfl ?_
    first | refine wp_aload_n (pc := 12) dX6_get_12 rfl ?_ | refine wp_aload_nN (pc := 12) dX6_get_12 rfl ?_
    refine wp_getI (pc := 13) dX6_get_13 fl_LevelStore_80 (by first | assumption | exact Fx.ok (by assumption) (by decide)) rfl ?_
    have e : σ.get k = (readV (allE σ) k.toInt (I 3 2).toInt, σ) := by unfold St.get; rw [if_pos hK, en]
    refine cv_LevelStore_83 (pc := 16) (s_readUpTo h hl hk hu hK (I 3 2)) rfl dX6_get_16 (by first | assumption | exact Fx.ok (by assumption) (by decide)) ⟨by decide, by decide, Nat.zero_le _, Nat.zero_le _⟩ (Nat.le_of_ble_eq_true rfl) (fun v h hp => ?_)
    rw [← e] at hp
    obtain ⟨n', S', R', I', A', P', sp', rfl, rfl, hq⟩ := hp.out
    refine wp_ret (pc := 19) dX6_get_19 rfl (by first | trivial | exact Or.inl rfl | exact Or.inr rfl | assumption) ?_
    exact ⟨rfl, n', S', R', I', A', P', sp', rfl, hq⟩
  · have hK := ite01 hc
    refine wp_ldc (pc := 7) (v := -1000002) dX6_get_7 cn_LevelStore_60 ?_
    refine wp_ret (pc := 9) dX6_get_9 rfl (by first | trivial | exact Or.inl rfl | exact Or.inr rfl | assumption) ?_
    exact cP.id2 h (by unfold St.get; rw [if_neg hK])
theorem s_view (h : RC σ n S R I A P sp) (hl : σ.log.length ≤ 24) (hk : ∀ k, k < 4 → ∀ F ∈ σ.FS k, kB F.es) (hu : uqN (allE σ)) (v k : Int32) : wp 7 154 0 0 MX6_view 0 [(0, .ref 3), (1, .int v), (2, .int k)] [] (n, S, R, I) (cP I n S R (σ.view v k)) := by
  have hX := h.fx
  first | refine wp_aload_n (pc := 0) dX6_view_0 rfl ?_ | refine wp_aload_nN (pc := 0) dX6_view_0 rfl ?_
  refine wp_iload_n (pc := 1) dX6_view_1 rfl ?_
  refine cv_LevelStore_86 (pc := 2) (s_isHeld h v) rfl dX6_view_2 (by first | assumption | exact Fx.ok (by assumption) (by decide)) ⟨by decide, by decide, Nat.zero_le _, Nat.zero_le _⟩ (Nat.le_of_ble_eq_true rfl) (fun v h hp => ?_)
  obtain ⟨rfl, rfl⟩ := hp
  refine wp_if_ne (pc := 5) (tgt := 11) dX6_view_5 (by decide) (fun hc => ?_) (fun hc => ?_)
  · have hv := ite01n hc
    refine wp_iload_n (pc := 11) dX6_view_11 rfl ?_
    refine cv_LevelStore_54 (pc := 12) (s_isKey k) rfl dX6_view_12 ⟨by decide, by decide, Nat.zero_le _, Nat.zero_le _⟩ (Nat.le_of_ble_eq_true rfl) (fun v h hp => ?_)
    obtain ⟨rfl, rfl⟩ := hp
    refine wp_if_ne (pc := 15) (tgt := 21) dX6_view_15 (by decide) (fun hc => ?_) (fun hc => ?_)
    · have hK := ite01n hc
      first | refine wp_aload_n (pc := 21) dX6_view_21 rfl ?_ | refine wp_aload_nN (pc := 21) dX6_view_21 rfl ?_
      refine wp_iload_n (pc := 22) dX6_view_22 rfl ?_
      first | refine wp_aload_n (pc := 23) dX6_view_23 rfl ?_ | refine wp_aload_nN (pc := 23) dX6_view_23 rfl ?_
      refine wp_iload_n (pc := 24) dX6_view_24 rfl ?_
      refine cv_LevelStore_90 (pc := 25) (s_numV h v) rfl dX6_view_25 (by first | assumption | exact Fx.ok (by assumption) (by decide)) ⟨by decide, by decide, Nat.zero_le _, Nat.zero_le _⟩ (Nat.le_of_ble_eq_true rfl) (fun v h hp => ?_)
      obtain ⟨rfl, rfl⟩ := hp
      rw [if_pos hv.1]
      have e : σ.view v k = (readV (allE σ) k.toInt (σ.V v.toInt.toNat).toInt, σ) := by unfold St.view; rw [if_pos hv, if_pos hK]
      refine cv_LevelStore_83 (pc := 28) (s_readUpTo h hl hk hu hK (σ.V v.toInt.toNat)) rfl dX6_view_28 (by first | assumption | exact Fx.ok (by assumption) (by decide)) ⟨by decide, by decide, Nat.zero_le _, Nat.zero_le _⟩ (Nat.le_of_ble_eq_true rfl) (fun v h hp => ?_)
      rw [← e] at hp
      obtain ⟨n', S', R', I', A', P', sp', rfl, rfl, hq⟩ := hp.out
      refine wp_ret (pc := 31) dX6_view_31 rfl (by first | trivial | exact Or.inl rfl | exact Or.inr rfl | assumption) ?_
      exact ⟨rfl, n', S', R', I', A', P', sp', rfl, hq⟩
    · have hK := ite01 hc
      refine wp_ldc (pc := 18) (v := -1000002) dX6_view_18 cn_LevelStore_60 ?_
      refine wp_ret (pc := 20) dX6_view_20 rfl (by first | trivial | exact Or.inl rfl | exact Or.inr rfl | assumption) ?_
      exact cP.id2 h (by unfold St.view; rw [if_pos hv, if_neg hK])
  · have hv := ite01 hc
    refine wp_ldc (pc := 8) (v := -1000001) dX6_view_8 cn_LevelStore_89 ?_
    refine wp_ret (pc := 10) dX6_view_10 rfl (by first | trivial | exact Or.inl rfl | exact Or.inr rfl | assumption) ?_
    exact cP.id2 h (by unfold St.view; rw [if_neg hv])
theorem s_next_tail (h : RC σ n S R I A P sp) (hl : σ.log.length ≤ 24) (hk : ∀ k, k < 4 → ∀ F ∈ σ.FS k, kB F.es) (hu : uqN (allE σ)) {k : Int32} (hK : isK k) (u : Int32) (L : List (Nat × Value)) (hL : ab_sub L [(0, .ref 3)]) : wp 6 132 0 0 MX6_next 60 L [.int u, .int 999, .int k, .ref 24] (n, S, R, I) (cP I n S R (nextV (allE σ) k.toInt u.toInt, σ)) := by
  refine wp_loc hL ?_
  have hX := h.fx
  have h1 := hK.1
  have h2 := hK.2
  obtain ⟨m, hm, hkm⟩ : ∃ m : Nat, m ≤ 999 ∧ k.toInt = m := ⟨k.toInt.toNat, by omega, by omega⟩
  have ek : k = nI m := tI_N hkm
  subst ek
  have e : (nI m).toInt = m := hkm
  have o24 : ab_ok n S 24 4 := hX.ok (by decide)
  refine cv_LevelStore_94 (pc := 60) (s_X3_begin (a := m) (b := 999) (u := u) hX hm (Nat.le_refl 999) (by omega)) rfl dX6_next_60 (by first | assumption | exact Fx.ok (by assumption) (by decide)) ⟨by decide, by decide, Nat.zero_le _, Nat.zero_le _⟩ (Nat.le_of_ble_eq_true rfl) (fun v h hp => ?_)
  obtain ⟨rfl, I1, rfl, hf1, hA1, hz1⟩ := hp
  have hR1 : RC σ n S R I1 A P sp := h.same (fun j hj => hf1 j (by simp at hj; simp; omega))
  first | refine wp_aload_n (pc := 63) dX6_next_63 rfl ?_ | refine wp_aload_nN (pc := 63) dX6_next_63 rfl ?_
  refine cv_LevelStore_98 (pc := 64) (s_readAll hR1 hl hA1 hk) rfl dX6_next_64 (by first | assumption | exact Fx.ok (by assumption) (by decide)) ⟨by decide, by decide, Nat.zero_le _, Nat.zero_le _⟩ (Nat.le_of_ble_eq_true rfl) (fun v h hp => ?_)
  obtain ⟨rfl, I2, rfl, hf2, hw2⟩ := hp
  first | refine wp_aload_n (pc := 67) dX6_next_67 rfl ?_ | refine wp_aload_nN (pc := 67) dX6_next_67 rfl ?_
  refine wp_getR (pc := 68) dX6_next_68 fl_LevelStore_43 (by first | assumption | exact Fx.ok (by assumption) (by decide)) rfl (by first | assumption | exact Fx.ref (by assumption) rfl) ?_
  refine cv_LevelStore_101 (pc := 71) (s_X3_leastKeyWithValue hX (hA1.keep (hf2 24 (by decide)))) rfl dX6_next_71 (by first | assumption | exact Fx.ok (by assumption) (by decide)) ⟨by decide, by decide, Nat.zero_le _, Nat.zero_le _⟩ (Nat.le_of_ble_eq_true rfl) (fun v h hp => ?_)
  obtain ⟨rfl, hp⟩ := hp
  have hrd : ∀ j : Nat, m ≤ j → j ≤ 999 → I2 26 j = readV (allE σ) j u.toInt := fun j hj1 hj2 => by
    have e2 := rdS_fold (a := m) (b := 999) (u := u) hj1 hj2 (allE σ) (I1 25, I1 26)
    rw [← hw2] at e2
    have e3 : I2 26 j = ((allE σ).foldl (rd1 j u.toInt) (I1 25 j, I1 26 j)).2 := by rw [← e2]
    rw [e3, (hz1 j hj1 hj2).1, (hz1 j hj1 hj2).2, readV_fold hu]
  have hv : ∃ x, v = some (.int x) ∧ nextV (allE σ) (m : Int) u.toInt = x := by
    rcases hp with ⟨j, q1, q2, q3, q4, rfl⟩ | ⟨q1, rfl⟩
    · exact ⟨_, rfl, nextV_eq (Or.inl ⟨j, by omega, q2, by rw [← hrd j q1 q2]; exact q3, fun i i1 i2 => by rw [← hrd i (by omega) (by omega)]; exact q4 i (by omega) i2, rfl⟩)⟩
    · exact ⟨_, rfl, nextV_eq (Or.inr ⟨fun i i1 i2 => by rw [← hrd i (by omega) i2]; exact q1 i (by omega) i2, rfl⟩)⟩
  obtain ⟨x, rfl, hx⟩ := hv
  refine wp_ret (pc := 74) dX6_next_74 rfl (by first | trivial | exact Or.inl rfl | exact Or.inr rfl | assumption) ?_
  refine ⟨by rw [e, hx], n, S, R, I2, A, P, sp, rfl, ab_ex.rf, hR1.same (fun j hj => hf2 j (by simp at hj; simp; omega)), fun j hj => by rw [hf2 j (by simp; omega), hf1 j (by simp; omega)]⟩
theorem s_next (h : RC σ n S R I A P sp) (hl : σ.log.length ≤ 24) (hn : σ.num ≤ 60000) (hk : ∀ k, k < 4 → ∀ F ∈ σ.FS k, kB F.es) (hu : uqN (allE σ)) (v k : Int32) : wp 6 132 0 0 MX6_next 0 [(0, .ref 3), (1, .int v), (2, .int k)] [] (n, S, R, I) (cP I n S R (σ.next v k)) := by
  have hX := h.fx
  have en : (I 3 2).toInt = σ.num := by rw [h.c3.2.1, tI_n (by omega)]
  by_cases hv1 : v.toInt = -1
  · skip
    refine wp_iload_n (pc := 0) dX6_next_0 rfl ?_
    refine wp_iconst (pc := 1) (v := -1) dX6_next_1 (by decide) ?_
    refine wp_icmp_ne (pc := 2) (tgt := 9) dX6_next_2 (by decide) (fun hc => ?_) (fun hc => ?_)
    · rw [tl_m1] at hc; exact absurd hv1 hc
    · skip
      refine wp_iconst (pc := 5) (v := 1) dX6_next_5 (by decide) ?_
      refine wp_goto (pc := 6) (tgt := 10) dX6_next_6 (by decide) ?_
      refine wp_istore_n (pc := 10) dX6_next_10 (by decide) rfl ?_
      refine wp_iload_n (pc := 11) dX6_next_11 rfl ?_
      refine wp_if_ne (pc := 12) (tgt := 26) dX6_next_12 (by decide) (fun hc => ?_) (fun hc => ?_)
      · skip
        refine wp_iload_n (pc := 26) dX6_next_26 rfl ?_
        refine cv_LevelStore_54 (pc := 27) (s_isKey k) rfl dX6_next_27 ⟨by decide, by decide, Nat.zero_le _, Nat.zero_le _⟩ (Nat.le_of_ble_eq_true rfl) (fun v h hp => ?_)
        obtain ⟨rfl, rfl⟩ := hp
        refine wp_if_ne (pc := 30) (tgt := 36) dX6_next_30 (by decide) (fun hc => ?_) (fun hc => ?_)
        · have hK := ite01n hc
          first | refine wp_aload_n (pc := 36) dX6_next_36 rfl ?_ | refine wp_aload_nN (pc := 36) dX6_next_36 rfl ?_
          refine wp_getR (pc := 37) dX6_next_37 fl_LevelStore_43 (by first | assumption | exact Fx.ok (by assumption) (by decide)) rfl (by first | assumption | exact Fx.ref (by assumption) rfl) ?_
          refine wp_iload_n (pc := 40) dX6_next_40 rfl ?_
          refine wp_sipush (pc := 41) (v := 999) dX6_next_41 (by decide) ?_
          refine wp_iload_n (pc := 44) dX6_next_44 rfl ?_
          refine wp_if_eq (pc := 45) (tgt := 55) dX6_next_45 (by decide) (fun hc => ?_) (fun hc => ?_)
          · exact absurd hc (by decide)
          · skip
            first | refine wp_aload_n (pc := 48) dX6_next_48 rfl ?_ | refine wp_aload_nN (pc := 48) dX6_next_48 rfl ?_
            refine wp_getI (pc := 49) dX6_next_49 fl_LevelStore_80 (by first | assumption | exact Fx.ok (by assumption) (by decide)) rfl ?_
            refine wp_goto (pc := 52) (tgt := 60) dX6_next_52 (by decide) ?_
            rw [show σ.next v k = (nextV (allE σ) k.toInt (I 3 2).toInt, σ) by unfold St.next; rw [if_pos (Or.inl hv1), if_pos hK, if_pos hv1, en]]
            exact s_next_tail h hl hk hu hK _ _ ⟨rfl, trivial⟩
        · have hK := ite01 hc
          refine wp_ldc (pc := 33) (v := -1000002) dX6_next_33 cn_LevelStore_60 ?_
          refine wp_ret (pc := 35) dX6_next_35 rfl (by first | trivial | exact Or.inl rfl | exact Or.inr rfl | assumption) ?_
          exact cP.id2 h (by unfold St.next; rw [if_pos (Or.inl hv1), if_neg hK])
      · exact absurd hc (by decide)
  · skip
    refine wp_iload_n (pc := 0) dX6_next_0 rfl ?_
    refine wp_iconst (pc := 1) (v := -1) dX6_next_1 (by decide) ?_
    refine wp_icmp_ne (pc := 2) (tgt := 9) dX6_next_2 (by decide) (fun hc => ?_) (fun hc => ?_)
    · skip
      refine wp_iconst (pc := 9) (v := 0) dX6_next_9 (by decide) ?_
      refine wp_istore_n (pc := 10) dX6_next_10 (by decide) rfl ?_
      refine wp_iload_n (pc := 11) dX6_next_11 rfl ?_
      refine wp_if_ne (pc := 12) (tgt := 26) dX6_next_12 (by decide) (fun hc => ?_) (fun hc => ?_)
      · exact absurd rfl hc
      · skip
        first | refine wp_aload_n (pc := 15) dX6_next_15 rfl ?_ | refine wp_aload_nN (pc := 15) dX6_next_15 rfl ?_
        refine wp_iload_n (pc := 16) dX6_next_16 rfl ?_
        refine cv_LevelStore_86 (pc := 17) (s_isHeld h v) rfl dX6_next_17 (by first | assumption | exact Fx.ok (by assumption) (by decide)) ⟨by decide, by decide, Nat.zero_le _, Nat.zero_le _⟩ (Nat.le_of_ble_eq_true rfl) (fun v h hp => ?_)
        obtain ⟨rfl, rfl⟩ := hp
        refine wp_if_ne (pc := 20) (tgt := 26) dX6_next_20 (by decide) (fun hc => ?_) (fun hc => ?_)
        · have hv := ite01n hc
          refine wp_iload_n (pc := 26) dX6_next_26 rfl ?_
          refine cv_LevelStore_54 (pc := 27) (s_isKey k) rfl dX6_next_27 ⟨by decide, by decide, Nat.zero_le _, Nat.zero_le _⟩ (Nat.le_of_ble_eq_true rfl) (fun v h hp => ?_)
          obtain ⟨rfl, rfl⟩ := hp
          refine wp_if_ne (pc := 30) (tgt := 36) dX6_next_30 (by decide) (fun hc => ?_) (fun hc => ?_)
          · have hK := ite01n hc
            first | refine wp_aload_n (pc := 36) dX6_next_36 rfl ?_ | refine wp_aload_nN (pc := 36) dX6_next_36 rfl ?_
            refine wp_getR (pc := 37) dX6_next_37 fl_LevelStore_43 (by first | assumption | exact Fx.ok (by assumption) (by decide)) rfl (by first | assumption | exact Fx.ref (by assumption) rfl) ?_
            refine wp_iload_n (pc := 40) dX6_next_40 rfl ?_
            refine wp_sipush (pc := 41) (v := 999) dX6_next_41 (by decide) ?_
            refine wp_iload_n (pc := 44) dX6_next_44 rfl ?_
            refine wp_if_eq (pc := 45) (tgt := 55) dX6_next_45 (by decide) (fun hc => ?_) (fun hc => ?_)
            · skip
              first | refine wp_aload_n (pc := 55) dX6_next_55 rfl ?_ | refine wp_aload_nN (pc := 55) dX6_next_55 rfl ?_
              refine wp_iload_n (pc := 56) dX6_next_56 rfl ?_
              refine cv_LevelStore_90 (pc := 57) (s_numV h v) rfl dX6_next_57 (by first | assumption | exact Fx.ok (by assumption) (by decide)) ⟨by decide, by decide, Nat.zero_le _, Nat.zero_le _⟩ (Nat.le_of_ble_eq_true rfl) (fun v h hp => ?_)
              obtain ⟨rfl, rfl⟩ := hp
              rw [if_pos hv.1]
              rw [show σ.next v k = (nextV (allE σ) k.toInt (σ.V v.toInt.toNat).toInt, σ) by unfold St.next; rw [if_pos (Or.inr hv), if_pos hK, if_neg hv1]]
              exact s_next_tail h hl hk hu hK _ _ ⟨rfl, trivial⟩
            · exact absurd rfl hc
          · have hK := ite01 hc
            refine wp_ldc (pc := 33) (v := -1000002) dX6_next_33 cn_LevelStore_60 ?_
            refine wp_ret (pc := 35) dX6_next_35 rfl (by first | trivial | exact Or.inl rfl | exact Or.inr rfl | assumption) ?_
            exact cP.id2 h (by unfold St.next; rw [if_pos (Or.inr hv), if_neg hK])
        · have hv := ite01 hc
          refine wp_ldc (pc := 23) (v := -1000001) dX6_next_23 cn_LevelStore_89 ?_
          refine wp_ret (pc := 25) dX6_next_25 rfl (by first | trivial | exact Or.inl rfl | exact Or.inr rfl | assumption) ?_
          exact cP.id2 h (by unfold St.next; rw [if_neg (fun q => q.elim hv1 hv)])
    · rw [tl_m1] at hc; exact absurd (by omega) hv1
end GT
