/-! THE LAW -/
section LX
variable {n Ls : Nat} {xs : Nat → Int32} {S : ab_SH} {R : ab_RR} {I : ab_II}
theorem LI.up {t : Nat} (h : LI Ls xs t n S R I) (ht : t + 1 ≤ 512) : LI Ls xs (t + 1) n S R I := by
  obtain ⟨σ, A, P, sp, SL, hI, q⟩ := h
  exact ⟨σ, A, P, sp, SL, hI.up ht, q⟩
theorem law_loop (hLs : Ls ≤ 2560) (post : ab_Po) (hpost : ∀ h, post (some (.int 1)) h) :
    ∀ (d t n : Nat) (S : ab_SH) (R : ab_RR) (I : ab_II) (L : List (Nat × Value)), Ls / 5 = t + d → LI Ls xs t n S R I → ab_sub L [(0, .ref 2), (1, .ref 3), (2, .ref 39), (3, .int (nI (5 * t)))] → wp 13 494 (650 * d) (11600 * d) ML_law 18 L [] (n, S, R, I) post := by
  have el : (nI Ls).toInt = Ls := tI_n (by omega)
  have el5 : (nI Ls - 5).toInt = (Ls : Int) - 5 := by rw [tI_sub (by rw [el, tl_5]; omega) (by rw [el, tl_5]; omega), el, tl_5]
  intro d
  induction d with
  | zero =>
    intro t n S R I L ht hLI hL0
    refine wp_loc hL0 ?_
    have hS : (S 2).2 = Ls := by obtain ⟨σ, A, P, sp, SL, -, -, -, q, -⟩ := hLI; exact q
    have et : (nI (5 * t)).toInt = ((5 * t : Nat) : Int) := tI_n (by omega)
    refine wp_iload_n (pc := 18) dL_law_18 rfl ?_
    first | refine wp_aload_n (pc := 19) dL_law_19 rfl ?_ | refine wp_aload_nN (pc := 19) dL_law_19 rfl ?_
    refine wp_slen (pc := 20) dL_law_20 ?_
    rw [hS, show Int32.ofNat Ls = nI Ls from rfl]
    refine wp_iconst (pc := 21) (v := 5) dL_law_21 (by decide) ?_
    refine wp_isub (pc := 22) dL_law_22 ?_
    refine wp_icmp_gt (pc := 23) (tgt := 688) dL_law_23 (by decide) (fun hc => ?_) (fun hc => ?_)
    · skip
      refine wp_iconst (pc := 688) (v := 1) dL_law_688 (by decide) ?_
      refine wp_ret (pc := 689) dL_law_689 rfl (by first | trivial | exact Or.inl rfl | exact Or.inr rfl | assumption) ?_
      exact hpost _
    · rw [el5, et] at hc; omega
  | succ d ih =>
    intro t n S R I L ht hLI hL0
    refine wp_loc hL0 ?_
    have hS : (S 2).2 = Ls := by obtain ⟨σ, A, P, sp, SL, -, -, -, q, -⟩ := hLI; exact q
    have et : (nI (5 * t)).toInt = ((5 * t : Nat) : Int) := tI_n (by omega)
    have e5 : nI (5 * t) + Int32.ofInt 5 = nI (5 * (t + 1)) := by
      rw [show Int32.ofInt 5 = nI 5 by decide +kernel, nI_add]; rfl
    have k682 : ∀ n S R I, LI Ls xs (t + 1) n S R I → ∀ L, ab_sub L [(0, .ref 2), (1, .ref 3), (2, .ref 39), (3, .int (nI (5 * t)))] → wp 13 494 (650 * d) (11600 * d) ML_law 682 L [] (n, S, R, I) post := by
      intro n S R I hLI L hL
      refine wp_loc hL ?_
      refine wp_iinc (pc := 682) dL_law_682 rfl (by decide) rfl ?_
      refine wp_goto (pc := 685) (tgt := 18) dL_law_685 (by decide) ?_
      exact ih (t + 1) n S R I _ (by omega) hLI ⟨rfl, rfl, rfl, by rw [← e5]; rfl, trivial⟩
    refine wp_room (mc' := 650 * d + 650) (ms' := 11600 * d + 11600) (by omega) (by omega) ?_
    refine wp_iload_n (pc := 18) dL_law_18 rfl ?_
    first | refine wp_aload_n (pc := 19) dL_law_19 rfl ?_ | refine wp_aload_nN (pc := 19) dL_law_19 rfl ?_
    refine wp_slen (pc := 20) dL_law_20 ?_
    rw [hS, show Int32.ofNat Ls = nI Ls from rfl]
    refine wp_iconst (pc := 21) (v := 5) dL_law_21 (by decide) ?_
    refine wp_isub (pc := 22) dL_law_22 ?_
    refine wp_icmp_gt (pc := 23) (tgt := 688) dL_law_23 (by decide) (fun hc => ?_) (fun hc => ?_)
    · rw [el5, et] at hc; omega
    · skip
      first | refine wp_aload_n (pc := 26) dL_law_26 rfl ?_ | refine wp_aload_nN (pc := 26) dL_law_26 rfl ?_
      refine wp_iload_n (pc := 27) dL_law_27 rfl ?_
      refine wp_saload (pc := 28) dL_law_28 (by rw [hS]; exact in_N (by omega) (by omega)) ?_
      refine wp_bipush (pc := 29) (v := 31) dL_law_29 (by decide) ?_
      refine wp_iand (pc := 31) dL_law_31 ?_
      refine wp_tableAt (pc := 32) (0) (off := 104) (tgt := 136) dL_law_32 (by decide) (by decide) rfl (by decide) (fun hc => ?_) (fun hc => ?_)
      · exact law_put hLI (by omega) (by omega) hLs k682 _ ⟨rfl, rfl, rfl, rfl, trivial⟩
      refine wp_tableAt (pc := 32) (1) (off := 137) (tgt := 169) dL_law_32 (by decide) (by decide) rfl (by decide) (fun hc => ?_) (fun hc => ?_)
      · exact law_drop hLI (by omega) (by omega) hLs k682 _ ⟨rfl, rfl, rfl, rfl, trivial⟩
      refine wp_tableAt (pc := 32) (2) (off := 160) (tgt := 192) dL_law_32 (by decide) (by decide) rfl (by decide) (fun hc => ?_) (fun hc => ?_)
      · exact law_sync hLI (by omega) (by omega) hLs k682 _ ⟨rfl, rfl, rfl, rfl, trivial⟩
      refine wp_tableAt (pc := 32) (3) (off := 173) (tgt := 205) dL_law_32 (by decide) (by decide) rfl (by decide) (fun hc => ?_) (fun hc => ?_)
      · exact law_crash hLI (by omega) (by omega) hLs k682 _ ⟨rfl, rfl, rfl, rfl, trivial⟩
      refine wp_tableAt (pc := 32) (4) (off := 196) (tgt := 228) dL_law_32 (by decide) (by decide) rfl (by decide) (fun hc => ?_) (fun hc => ?_)
      · exact law_get hLI (by omega) (by omega) hLs k682 _ ⟨rfl, rfl, rfl, rfl, trivial⟩
      refine wp_tableAt (pc := 32) (5) (off := 219) (tgt := 251) dL_law_32 (by decide) (by decide) rfl (by decide) (fun hc => ?_) (fun hc => ?_)
      · exact law_view hLI (by omega) (by omega) hLs k682 _ ⟨rfl, rfl, rfl, rfl, trivial⟩
      refine wp_tableAt (pc := 32) (6) (off := 252) (tgt := 284) dL_law_32 (by decide) (by decide) rfl (by decide) (fun hc => ?_) (fun hc => ?_)
      · exact law_next hLI (by omega) (by omega) hLs k682 _ ⟨rfl, rfl, rfl, rfl, trivial⟩
      refine wp_tableAt (pc := 32) (7) (off := 285) (tgt := 317) dL_law_32 (by decide) (by decide) rfl (by decide) (fun hc => ?_) (fun hc => ?_)
      · exact law_hold hLI (by omega) (by omega) hLs k682 _ ⟨rfl, rfl, rfl, rfl, trivial⟩
      refine wp_tableAt (pc := 32) (8) (off := 308) (tgt := 340) dL_law_32 (by decide) (by decide) rfl (by decide) (fun hc => ?_) (fun hc => ?_)
      · exact law_release hLI (by omega) (by omega) hLs k682 _ ⟨rfl, rfl, rfl, rfl, trivial⟩
      refine wp_tableAt (pc := 32) (9) (off := 331) (tgt := 363) dL_law_32 (by decide) (by decide) rfl (by decide) (fun hc => ?_) (fun hc => ?_)
      · exact law_flush hLI (by omega) (by omega) hLs k682 _ ⟨rfl, rfl, rfl, rfl, trivial⟩
      refine wp_tableAt (pc := 32) (10) (off := 344) (tgt := 376) dL_law_32 (by decide) (by decide) rfl (by decide) (fun hc => ?_) (fun hc => ?_)
      · exact law_merge hLI (by omega) (by omega) hLs k682 _ ⟨rfl, rfl, rfl, rfl, trivial⟩
      refine wp_tableAt (pc := 32) (11) (off := 377) (tgt := 409) dL_law_32 (by decide) (by decide) rfl (by decide) (fun hc => ?_) (fun hc => ?_)
      · exact law_work hLI (by omega) (by omega) hLs k682 _ ⟨rfl, rfl, rfl, rfl, trivial⟩
      refine wp_tableAt (pc := 32) (12) (off := 400) (tgt := 432) dL_law_32 (by decide) (by decide) rfl (by decide) (fun hc => ?_) (fun hc => ?_)
      · exact law_install hLI (by omega) (by omega) hLs k682 _ ⟨rfl, rfl, rfl, rfl, trivial⟩
      refine wp_tableAt (pc := 32) (13) (off := 413) (tgt := 445) dL_law_32 (by decide) (by decide) rfl (by decide) (fun hc => ?_) (fun hc => ?_)
      · exact law_stop hLI (by omega) (by omega) hLs k682 _ ⟨rfl, rfl, rfl, rfl, trivial⟩
      refine wp_tableAt (pc := 32) (14) (off := 426) (tgt := 458) dL_law_32 (by decide) (by decide) rfl (by decide) (fun hc => ?_) (fun hc => ?_)
      · exact law_high hLI (by omega) (by omega) hLs k682 _ ⟨rfl, rfl, rfl, rfl, trivial⟩
      refine wp_tableAt (pc := 32) (15) (off := 439) (tgt := 471) dL_law_32 (by decide) (by decide) rfl (by decide) (fun hc => ?_) (fun hc => ?_)
      · exact law_files hLI (by omega) (by omega) hLs k682 _ ⟨rfl, rfl, rfl, rfl, trivial⟩
      refine wp_tableAt (pc := 32) (16) (off := 462) (tgt := 494) dL_law_32 (by decide) (by decide) rfl (by decide) (fun hc => ?_) (fun hc => ?_)
      · exact law_file hLI (by omega) (by omega) hLs k682 _ ⟨rfl, rfl, rfl, rfl, trivial⟩
      refine wp_tableAt (pc := 32) (17) (off := 505) (tgt := 537) dL_law_32 (by decide) (by decide) rfl (by decide) (fun hc => ?_) (fun hc => ?_)
      · exact law_entry hLI (by omega) (by omega) hLs k682 _ ⟨rfl, rfl, rfl, rfl, trivial⟩
      refine wp_tableAt (pc := 32) (18) (off := 558) (tgt := 590) dL_law_32 (by decide) (by decide) rfl (by decide) (fun hc => ?_) (fun hc => ?_)
      · exact law_byteAt hLI (by omega) (by omega) hLs k682 _ ⟨rfl, rfl, rfl, rfl, trivial⟩
      refine wp_tableAt (pc := 32) (19) (off := 581) (tgt := 613) dL_law_32 (by decide) (by decide) rfl (by decide) (fun hc => ?_) (fun hc => ?_)
      · exact law_log hLI (by omega) (by omega) hLs k682 _ ⟨rfl, rfl, rfl, rfl, trivial⟩
      refine wp_tableAt (pc := 32) (20) (off := 614) (tgt := 646) dL_law_32 (by decide) (by decide) rfl (by decide) (fun hc => ?_) (fun hc => ?_)
      · exact law_count hLI (by omega) (by omega) hLs k682 _ ⟨rfl, rfl, rfl, rfl, trivial⟩
      refine wp_tableAt (pc := 32) (21) (off := 637) (tgt := 669) dL_law_32 (by decide) (by decide) rfl (by decide) (fun hc => ?_) (fun hc => ?_)
      · exact law_check hLI (by omega) (by omega) hLs k682 _ ⟨rfl, rfl, rfl, rfl, trivial⟩
      refine wp_tableOut (pc := 32) (tgt := 682) dL_law_32 (by omega) (by decide) ?_
      exact wp_room (by omega) (by omega) (k682 n S R I (hLI.up (by omega)) _ ⟨rfl, rfl, rfl, rfl, trivial⟩)
theorem law_all (hLs : (S 2).2 ≤ 2560) (post : ab_Po) (hpost : ∀ h, post (some (.int 1)) h) : wp 13 494 600000 7302250 ML_law 0 [(0, .ref 2)] [] (3, S, R, I) post := by
  have c : Cr ((S 2).2, I 2) 3 [] S R I := ⟨⟨fun j h1 h2 => by omega, fun j k x h1 h2 => by omega, fun j k h1 h2 => by omega⟩, fun q => by omega, fun q => by omega, rfl, rfl⟩
  generalize hsc : ((S 2).2, I 2) = sc at c
  have hLs : sc.1 ≤ 2560 := by rw [← hsc]; exact hLs
  refine wp_new (pc := 0) dL_law_0 ab_k7 cl_LevelStoreLaw_7 in_LevelStore ini_LevelStore (by decide) (by decide) ?_
  refine cr_cut (m := 4) (pd := [(3, 0), (3, 3), (3, 4), (3, 5), (3, 6), (3, 7), (3, 8)]) (c.new (m := 3) ⟨by decide, by decide, by decide⟩ (by decide +kernel) (refs_in (by decide) (by decide +kernel)) (by decide)) (fun S R I c => ?_)
  refine wp_dup (pc := 3) dL_law_3 rfl ?_
  refine cv_LevelStoreLaw_9 (pc := 4) (c_X6_init c) rfl dL_law_4 ⟨by decide, by decide, by decide, by decide⟩ (Nat.le_of_ble_eq_true rfl) (fun v h hp => ?_)
  obtain ⟨rfl, S2, R2, I2, rfl, c2⟩ := hp
  refine cr_cut (m := 39) (pd := []) c2 (fun S R I c => ?_)
  first | refine wp_astore_n (pc := 7) dL_law_7 (by decide) rfl ?_ | refine wp_astore_nN (pc := 7) dL_law_7 (by decide) rfl ?_
  refine wp_new (pc := 8) dL_law_8 ab_k8 cl_LevelStoreLaw_10 in_LevelStoreModel ini_LevelStoreModel (by decide) (by decide) ?_
  refine cr_cut (m := 40) (pd := [(39, 3), (39, 4), (39, 5), (39, 7), (39, 8), (39, 9), (39, 10), (39, 11), (39, 12), (39, 13), (39, 14), (39, 15), (39, 17), (39, 19), (39, 24), (39, 25), (39, 26), (39, 27), (39, 28), (39, 33), (39, 34), (39, 35), (39, 37), (39, 38), (39, 39), (39, 40)]) (c.new (m := 39) ⟨by decide, by decide, by decide⟩ (by decide +kernel) (refs_in (by decide) (by decide +kernel)) (by decide)) (fun S R I c => ?_)
  refine wp_dup (pc := 11) dL_law_11 rfl ?_
  refine cv_LevelStoreLaw_12 (pc := 12) (c_X7_init c) rfl dL_law_12 ⟨by decide, by decide, by decide, by decide⟩ (Nat.le_of_ble_eq_true rfl) (fun v h hp => ?_)
  obtain ⟨rfl, S3, R3, I3, J, rfl, c3, hJ, h44⟩ := hp
  first | refine wp_astore_n (pc := 15) dL_law_15 (by decide) rfl ?_ | refine wp_astore_nN (pc := 15) dL_law_15 (by decide) rfl ?_
  refine wp_iconst (pc := 16) (v := 0) dL_law_16 (by decide) ?_
  refine wp_istore_n (pc := 17) dL_law_17 (by decide) rfl ?_
  refine wp_room (mc' := 650 * (sc.1 / 5)) (ms' := 11600 * (sc.1 / 5)) (by omega) (by omega) (law_loop (Ls := sc.1) (xs := sc.2) hLs post hpost (sc.1 / 5) 0 66 S3 R3 J _ (by omega) ⟨St0 (J 8) (J 21), fun _ => (0, 0), fun _ => [], [], fun _ => [], Inv0 (c3.v8 hJ), c3.rc hJ, c3.rm hJ h44, c3.2.2.2.1, (hJ 2 (by decide)).trans c3.2.2.2.2⟩ ⟨rfl, rfl, rfl, rfl, trivial⟩)
end LX
