theorem co_max : Cond.code Lib.Math.max.name Lib.Math.max.code 2 (some .int) ∈ lw_g := lw_g_of (i := 85) (by decide +kernel) (by decide +kernel)
theorem co_min : Cond.code Lib.Math.min.name Lib.Math.min.code 2 (some .int) ∈ lw_g := lw_g_of (i := 418) (by decide +kernel) (by decide +kernel)
/-! NUMBERS, FRAMES -/
theorem wp_max {fr lo mc ms : Nat} {M : ab_MT} {pc idx : Nat} {L : List (Nat × Value)} {st : List Value} {h : ab_M} {post : ab_Po} {x y : Int32} (hd : decode M.2.1 pc = .ok (.invokestatic idx, 3)) (hl1 : Cond.methodLink M.1.cls idx yJ9_max_7cf53 ∈ lw_g) (hf : 1 ≤ fr) (hlo : (st.map fun v => v.category).sum + 13 ≤ lo)
    (kk : wp fr lo mc ms M (pc + 3) L (.int (if x < y then y else x) :: st) h post) : wp fr lo mc ms M pc L (.int y :: .int x :: st) h post := by
  intro G p l e R1 s m args below meth c Q Cx hb hQ H locs cells slots ls hw hS hc hs hl
  obtain ⟨hx, hcode, hml, -, -, -, hown, hts, hfr, hloc⟩ := id Cx
  exact va_mmax hx hcode (by rw [hml]; exact hl.1.symm) hown (hts _ hl1) (hts _ sm_J9_max_7cf53) (hts _ ini_Math) (hts _ co_max) (by omega) (by rw [ab_stw]; omega) (by omega) (by omega) hd (kk G p l e R1 s m args below meth c Q Cx hb hQ H locs cells slots ls hw hS hc hs hl)
theorem wp_min {fr lo mc ms : Nat} {M : ab_MT} {pc idx : Nat} {L : List (Nat × Value)} {st : List Value} {h : ab_M} {post : ab_Po} {x y : Int32} (hd : decode M.2.1 pc = .ok (.invokestatic idx, 3)) (hl1 : Cond.methodLink M.1.cls idx yJ9_min_7cf53 ∈ lw_g) (hf : 1 ≤ fr) (hlo : (st.map fun v => v.category).sum + 13 ≤ lo)
    (kk : wp fr lo mc ms M (pc + 3) L (.int (if y < x then y else x) :: st) h post) : wp fr lo mc ms M pc L (.int y :: .int x :: st) h post := by
  intro G p l e R1 s m args below meth c Q Cx hb hQ H locs cells slots ls hw hS hc hs hl
  obtain ⟨hx, hcode, hml, -, -, -, hown, hts, hfr, hloc⟩ := id Cx
  exact va_mmin hx hcode (by rw [hml]; exact hl.1.symm) hown (hts _ hl1) (hts _ sm_J9_min_7cf53) (hts _ ini_Math) (hts _ co_min) (by omega) (by rw [ab_stw]; omega) (by omega) (by omega) hd (kk G p l e R1 s m args below meth c Q Cx hb hQ H locs cells slots ls hw hS hc hs hl)
theorem tI_add {a b : Int32} (h1 : -2147483648 ≤ a.toInt + b.toInt) (h2 : a.toInt + b.toInt < 2147483648) : (a + b).toInt = a.toInt + b.toInt := by
  rw [Int32.toInt_add]
  exact Int.bmod_eq_of_le (by omega) (by omega)
theorem tI_sub {a b : Int32} (h1 : -2147483648 ≤ a.toInt - b.toInt) (h2 : a.toInt - b.toInt < 2147483648) : (a - b).toInt = a.toInt - b.toInt := by
  rw [Int32.toInt_sub]
  exact Int.bmod_eq_of_le (by omega) (by omega)
theorem tI_mul {a b : Int32} (h1 : -2147483648 ≤ a.toInt * b.toInt) (h2 : a.toInt * b.toInt < 2147483648) : (a * b).toInt = a.toInt * b.toInt := by
  rw [Int32.toInt_mul]
  exact Int.bmod_eq_of_le (by omega) (by omega)
theorem tI_n {n : Nat} (h : n < 2147483648) : (nI n).toInt = (n : Int) := nI_toInt h
theorem tI_o {n : Nat} (h : n < 2147483648) : (Int32.ofNat n).toInt = (n : Int) := nI_toInt h
theorem tI_lt (a : Int32) : a.toInt < 2147483648 := a.toInt_lt
theorem tI_le (a : Int32) : -2147483648 ≤ a.toInt := a.le_toInt
theorem tI_c (a : Int32) : a.toNatClampNeg = a.toInt.toNat := rfl
theorem tI_eq {a b : Int32} (h : a.toInt = b.toInt) : a = b := Int32.toInt_inj.mp h
theorem tI_N {a : Int32} {n : Nat} (h : a.toInt = n) : a = nI n := tI_eq (by
  have := tI_lt a
  rw [tI_n (by omega), h])
theorem nI_i1 (k : Nat) : nI k + Int32.ofInt 1 = nI (k + 1) := nI_1 k
theorem nI_m1 (k : Nat) : nI (k + 1) + Int32.ofInt (-1) = nI k := by
  rw [show Int32.ofInt (-1) = -1 by decide]
  exact pk_m1 k
theorem in_N {n N : Nat} (h : n < N) (hN : N < 2147483648) : vp_in (nI n) N := vp_in_nI h hN
theorem in_I {x : Int32} {N : Nat} (h0 : 0 ≤ x.toInt) (h1 : x.toInt < N) : vp_in x N := vp_in_iff.mpr ⟨h0, h1⟩
theorem nI_c {n : Nat} (h : n < 2147483648) : (nI n).toNatClampNeg = n := nI_clamp h
theorem tl_0 : (0 : Int32).toInt = 0 := by decide +kernel
theorem tl_1 : (1 : Int32).toInt = 1 := by decide +kernel
theorem tl_2 : (2 : Int32).toInt = 2 := by decide +kernel
theorem tl_3 : (3 : Int32).toInt = 3 := by decide +kernel
theorem tl_4 : (4 : Int32).toInt = 4 := by decide +kernel
theorem tl_5 : (5 : Int32).toInt = 5 := by decide +kernel
theorem tl_6 : (6 : Int32).toInt = 6 := by decide +kernel
theorem tl_8 : (8 : Int32).toInt = 8 := by decide +kernel
theorem tl_9 : (9 : Int32).toInt = 9 := by decide +kernel
theorem tl_10 : (10 : Int32).toInt = 10 := by decide +kernel
theorem tl_24 : (24 : Int32).toInt = 24 := by decide +kernel
theorem tl_30 : (30 : Int32).toInt = 30 := by decide +kernel
theorem tl_m1 : (-1 : Int32).toInt = -1 := by decide +kernel
theorem tl_NONE : (-1000009 : Int32).toInt = -1000009 := by decide +kernel
theorem wp_tableAt {fr lo mc ms : Nat} {M : ab_MT} {pc : Nat} {L : List (Nat × Value)} {st : List Value} {h : ab_M} {post : ab_Po} {dflt lo' hi : Int} {offs : Array Int} {len : Nat} {x : Int32} (k : Int) {off : Int} {tgt : Nat} (hd : decode M.2.1 pc = .ok (.tableswitch dflt lo' hi offs, len)) (h1 : lo' ≤ k) (h2 : k ≤ hi) (ho : offs[(k - lo').toNat]? = some off) (ht : (pc : Int) + off = (tgt : Int))
    (kt : x.toInt = k → wp fr lo mc ms M tgt L st h post) (kf : x.toInt ≠ k → wp fr lo mc ms M pc L (.int x :: st) h post) : wp fr lo mc ms M pc L (.int x :: st) h post := by
  by_cases hx : x.toInt = k
  · exact wp_tableIn hd (by omega) (by omega) (by rw [hx]; exact ho) ht (kt hx)
  · exact kf hx
/-- nothing but these cells changed -/
def ab_fr (I I' : ab_II) (P : List Nat) : Prop := ∀ j, j ∉ P → I' j = I j
theorem ab_fr.rf {I : ab_II} {P : List Nat} : ab_fr I I P := fun _ _ => rfl
theorem ab_fr.tr {I I' I'' : ab_II} {P P' P'' : List Nat} (h : ab_fr I I' P) (h' : ab_fr I' I'' P') (h1 : ∀ j ∈ P, j ∈ P'') (h2 : ∀ j ∈ P', j ∈ P'') : ab_fr I I'' P'' := fun j hj => (h' j (fun q => hj (h2 j q))).trans (h j (fun q => hj (h1 j q)))
theorem ab_fr.tr1 {I I' I'' : ab_II} {P : List Nat} (h : ab_fr I I' P) (h' : ab_fr I' I'' P) : ab_fr I I'' P := h.tr h' (fun _ q => q) (fun _ q => q)
theorem ab_fr.u2 {I : ab_II} {P : List Nat} {r k : Nat} {x : Int32} (h : r ∈ P) : ab_fr I (ab_u2 I r k x) P := fun j hj => ab_u2_r I x (fun q => hj (q ▸ h))
/-- an entry: key, number, value -/
abbrev En : Type := Int32 × Int32 × Int32
abbrev cNONE : Int32 := -1000009
abbrev cBAD : Int32 := -1000002
