/-! THE WORLD AS PLANES: a cell has a number; what is at it is its kind and length (S), its references (R), its ints (I) -/
abbrev ab_G : Type := (Nat → ClassId) × (Nat → Nat → Nat) × (Nat → ClassId) × Nat × (Nat → Nat)
abbrev ab_D (G : ab_G) : va_G := (G.1, G.2.1)
abbrev ab_A (G : ab_G) : Nat → ClassId := G.2.2.1
abbrev ab_B (G : ab_G) : Nat := G.2.2.2.1
abbrev ab_L (G : ab_G) : Nat → Nat := G.2.2.2.2
def ab_R (G : ab_G) (i : Nat) : Nat := if i < 3 then ab_L G i else ab_B G + (i - 3)
def ab_V (G : ab_G) (v : Value) : Value := match v with
  | .ref i => .ref (ab_R G i)
  | v => v
abbrev ab_SH : Type := Nat → Nat × Nat
abbrev ab_RR : Type := Nat → Nat → Option Nat
abbrev ab_II : Type := Nat → Nat → Int32
abbrev ab_M : Type := Nat × ab_SH × ab_RR × ab_II
def ab_ty (ci : Nat) : Nat → FieldType := match ci with
  | 0 => tyJx4a65c
  | 1 => tyX0
  | 2 => tyX1
  | 3 => tyX2
  | 4 => tyX3
  | 5 => tyX4
  | 6 => tyX5
  | 7 => tyX6
  | _ => tyX7
def ab_nf (ci : Nat) : Nat := match ci with
  | 0 => 3
  | 1 => 4
  | 2 => 1
  | 3 => 12
  | 4 => 5
  | 5 => 4
  | 6 => 4
  | 7 => 10
  | _ => 41
def ab_rt (t : FieldType) : Bool := match t with
  | .object _ => true
  | .array _ => true
  | _ => false
def ab_isR (ci k : Nat) : Bool := ab_rt (ab_ty ci k)
def ab_F (G : ab_G) (R : ab_RR) (I : ab_II) (ci j k : Nat) : Value := if ab_isR ci k = true then va_rf ((R j k).map (ab_R G)) else .int (I j k)
def ab_E (G : ab_G) (S : ab_SH) (R : ab_RR) (I : ab_II) (j : Nat) : va_E :=
  if (S j).1 < 9 then .inr ((S j).1, (List.range (ab_nf (S j).1)).map (ab_F G R I (S j).1 j))
  else if (S j).1 < 11 then .inl (ab_A G (S j).1, (S j).2, .inl (I j))
  else .inl (ab_A G (S j).1, (S j).2, .inr (.inr (.inr (.inr (fun i => (R j i).map (ab_R G))))))
def ab_W (G : ab_G) (h : ab_M) : va_W := (List.range (h.1 - 3)).map (fun i => (ab_B G + i, ab_E G h.2.1 h.2.2.1 h.2.2.2 (i + 3)))
def ab_u2 {α : Type} (f : Nat → Nat → α) (r k : Nat) (x : α) : Nat → Nat → α := fun j i => if j = r ∧ i = k then x else f j i
theorem ab_u2_s {α : Type} (f : Nat → Nat → α) (r k : Nat) (x : α) : ab_u2 f r k x r k = x := by simp [ab_u2]
theorem ab_u2_n {α : Type} (f : Nat → Nat → α) {r k j i : Nat} (x : α) (h : j ≠ r ∨ i ≠ k) : ab_u2 f r k x j i = f j i := by
  unfold ab_u2
  rw [if_neg]
  rintro ⟨h1, h2⟩
  rcases h with h | h
  · exact h h1
  · exact h h2
theorem ab_u2_r {α : Type} (f : Nat → Nat → α) {r k j : Nat} (x : α) (h : j ≠ r) : ab_u2 f r k x j = f j := funext fun i => ab_u2_n f x (Or.inl h)
/-- cell r is there, of that kind -/
def ab_ok (n : Nat) (S : ab_SH) (r ci : Nat) : Prop := 3 ≤ r ∧ r < n ∧ (S r).1 = ci
theorem ab_R_big (G : ab_G) {r : Nat} (h : 3 ≤ r) : ab_R G r = ab_B G + (r - 3) := by simp [ab_R, Nat.not_lt.mpr h]
theorem ab_W_get (G : ab_G) {n r : Nat} {S : ab_SH} {R : ab_RR} {I : ab_II} (h3 : 3 ≤ r) (hr : r < n) : (ab_W G (n, S, R, I))[r - 3]? = some (ab_R G r, ab_E G S R I r) := by
  unfold ab_W
  rw [List.getElem?_map, List.getElem?_range (by show r - 3 < n - 3; omega)]
  simp only [Option.map_some, ab_R_big G h3, Nat.sub_add_cancel h3]
theorem ab_W_at (G : ab_G) {h : ab_M} {k : Nat} {q : Nat × va_E} (hk : (ab_W G h)[k]? = some q) : k + 3 < h.1 ∧ q = (ab_B G + k, ab_E G h.2.1 h.2.2.1 h.2.2.2 (k + 3)) := by
  unfold ab_W at hk
  rw [List.getElem?_map] at hk
  by_cases hl : k < h.1 - 3
  · rw [List.getElem?_range hl] at hk
    simp only [Option.map_some, Option.some.injEq] at hk
    exact ⟨by omega, hk.symm⟩
  · rw [List.getElem?_eq_none (by simpa using hl)] at hk
    simp at hk
/-- one cell changes -/
theorem ab_P_up {G : ab_G} {n r : Nat} {S S' : ab_SH} {R R' : ab_RR} {I I' : ab_II} {H H1 : Heap} (hP : va_P (ab_D G) vwCl (ab_W G (n, S, R, I)) H) (h3 : 3 ≤ r) (he : va_at (ab_D G) vwCl (ab_R G r, ab_E G S' R' I' r) H1)
    (ho : ∀ q : Nat, q ≠ ab_R G r → H1[q]? = H[q]?) (hs : ∀ j, j ≠ r → ab_E G S' R' I' j = ab_E G S R I j) : va_P (ab_D G) vwCl (ab_W G (n, S', R', I')) H1 := by
  intro k q hk
  obtain ⟨hl, rfl⟩ := ab_W_at G hk
  by_cases hkr : k + 3 = r
  · subst hkr
    rw [ab_R_big G h3] at he
    exact he
  · have h2 := hP k (ab_B G + k, ab_E G S R I (k + 3)) (by
      have := ab_W_get G (n := n) (S := S) (R := R) (I := I) (r := k + 3) (by omega) hl
      rw [ab_R_big G (by omega)] at this
      simpa using this)
    show va_at (ab_D G) vwCl (ab_B G + k, ab_E G S' R' I' (k + 3)) H1
    rw [hs _ hkr]
    refine h2.kept (ho _ ?_)
    rw [ab_R_big G h3]
    show ab_B G + k ≠ _
    omega
/-- one cell comes -/
theorem ab_P_new {G : ab_G} {n : Nat} {S S' : ab_SH} {R R' : ab_RR} {I I' : ab_II} {H H1 : Heap} (hP : va_P (ab_D G) vwCl (ab_W G (n, S, R, I)) H) (h3 : 3 ≤ n) (hz : H.size = ab_B G + (n - 3)) (he : va_at (ab_D G) vwCl (H.size, ab_E G S' R' I' n) H1)
    (ho : ∀ q : Nat, q < H.size → H1[q]? = H[q]?) (hs : ∀ j, j < n → ab_E G S' R' I' j = ab_E G S R I j) : va_P (ab_D G) vwCl (ab_W G (n + 1, S', R', I')) H1 := by
  intro k q hk
  obtain ⟨hl, rfl⟩ := ab_W_at G hk
  have hl : k + 3 < n + 1 := hl
  by_cases hkr : k + 3 = n
  · subst hkr
    rw [hz] at he
    exact he
  · have h2 := hP k (ab_B G + k, ab_E G S R I (k + 3)) (by
      have := ab_W_get G (n := n) (S := S) (R := R) (I := I) (r := k + 3) (by omega) (by omega)
      rw [ab_R_big G (by omega)] at this
      simpa using this)
    show va_at (ab_D G) vwCl (ab_B G + k, ab_E G S' R' I' (k + 3)) H1
    rw [hs _ (by omega)]
    exact h2.kept (ho _ h2.lt)
abbrev ab_tys (G : ab_G) : List (ClassId × FieldType) := [(ab_A G 9, .int), (ab_A G 10, .boolean), (ab_A G 11, .object "LevelStore$FileRow"), (ab_A G 12, .object "java/lang/Object")]
abbrev ab_N (G : ab_G) : Nat → Prop := fun q => ab_B G ≤ q
/-- what the tables say, and what lies below the world -/
def ab_t (G : ab_G) (U : State) (H : Heap) : Prop :=
  va_K (ab_D G) vwCl (ab_tys G) U ∧ (∀ i, i < 3 → i ≠ 1 → ab_L G i < ab_B G) ∧ va_Z "java/util/ArrayList" "DEFAULTCAPACITY_EMPTY_ELEMENTDATA" "[Ljava/lang/Object;" (.ref (ab_L G 0)) (ab_N G) U H ∧
  va_T (.object "java/lang/Object") (ab_L G 0) 0 (fun _ => .null) (ab_N G) U H ∧ va_Mi "[Ljava/lang/Object;" (ab_L G 1) U ∧ va_AO "java/lang/Object" U ∧ va_AO "LevelStore$FileRow" U ∧ va_Nw (.castable "LevelStore$SortedFile" "java/lang/Object") U ∧ va_Dc U
def ab_v (G : ab_G) (h : ab_M) (U : State) (H : Heap) : Prop := 3 ≤ h.1 ∧ H.size = ab_B G + (h.1 - 3) ∧ va_P (ab_D G) vwCl (ab_W G h) H ∧ va_X (ab_L G 2) (h.2.1 2).2 (h.2.2.2 2) U H
def ab_w (G : ab_G) (h : ab_M) (U : State) (H : Heap) : Prop := ab_v G h U H ∧ ab_t G U H
theorem ab_t.kept {G : ab_G} {U : State} {H H1 : Heap} (h : ab_t G U H) (hq : ∀ a : Nat, a < H.size → ¬ ab_N G a → H1[a]? = H[a]?) : ab_t G U H1 := by
  obtain ⟨h1, h2, h3, h4, h5⟩ := h
  exact ⟨h1, h2, h3.kept hq, h4.kept hq, h5⟩
theorem ab_t.warm {G : ab_G} {u U : State} {H : Heap} (hW : u.WarmedH U.vm) (h : ab_t G u H) : ab_t G U H := by
  obtain ⟨h1, h2, h3, h4, h5, h6, h7, h8, h9⟩ := h
  exact ⟨h1.moved hW.alike, h2, h3.moved hW.alike, h4.moved hW.alike, h5.moved hW.alike, h6.moved hW.alike, h7.moved hW.alike, va_Nw.warmC hW h8, h9.moved hW.alike⟩
theorem ab_v.warm {G : ab_G} {h : ab_M} {u U : State} {H : Heap} (hW : u.vm.Alike U.vm) (hv : ab_v G h u H) : ab_v G h U H := ⟨hv.1, hv.2.1, hv.2.2.1, hv.2.2.2.moved hW⟩
theorem ab_w.blind {G : ab_G} {h : ab_M} {U : State} {g : JFrame} {mk : MethodId} {a : Array Value} (hv : ab_w G h U U.heap) : ab_w G h (U.calling g mk a) (U.calling g mk a).heap := by
  obtain ⟨hv, h1, h2, h3, h4, h5, h6, h7, h8, h9⟩ := hv
  have e : U.vm.Alike (U.calling g mk a).vm := Vm.Alike.refl U.vm
  exact ⟨hv.warm e, h1.moved e, h2, h3.moved e, h4.moved e, h5.moved e, h6.moved e, h7.moved e, va_Nw.same rfl rfl h8, h9.moved e⟩
theorem ab_D_ok (G : ab_G) (h : ab_M) : va_D (ab_N G) (ab_W G h) := by
  refine ⟨fun i j p q hi hj hpq => ?_, fun k q hk => ?_⟩
  · obtain ⟨-, rfl⟩ := ab_W_at G hi
    obtain ⟨-, rfl⟩ := ab_W_at G hj
    have : ab_B G + i = ab_B G + j := hpq
    omega
  · obtain ⟨-, rfl⟩ := ab_W_at G hk
    exact Nat.le_add_right _ _
def lw_g : List Cond := lw_tbl.filter goodWord
theorem lw_g_sub {w : Cond} (h : w ∈ lw_g) : w ∈ lw_tbl := (List.mem_filter.mp h).1
theorem lw_g_of {w : Cond} {i : Nat} (h : lw_tbl[i]? = some w) (hg : goodWord w = true) : w ∈ lw_g := List.mem_filter.mpr ⟨List.mem_of_getElem? h, hg⟩
theorem lw_g_good : GoodIn lw_g lw_g := fun w h => ⟨h, good_of_word (List.mem_filter.mp h).2⟩
/-- a kind of object: its fields -/
def ab_K (ci : Nat) (C : String) (T : u_T) (N : Nat) : Prop := vwCl[ci]? = some (C, T, N) ∧ N = ab_nf ci ∧ (∀ w ∈ u_ws C T N, w ∈ lw_g) ∧ (∀ k, k < N → parseFieldDescriptor (T k).2.2.1 = some (ab_ty ci k)) ∧ (∀ a, a < N → ∀ b, b < N → a ≠ b → (T a).2.1 ≠ (T b).2.1) ∧ ci < 9
/-- a link to a field -/
def ab_FL (own : String) (idx ci k : Nat) (C : String) (T : u_T) (N : Nat) : Prop := ab_K ci C T N ∧ k < N ∧ ∃ ref, Cond.fieldLink own idx ref (T k).2.1 (T k).2.2.1 ∈ lw_g ∧ (ref = (T k).1 ∨ Cond.sameField ref (T k).1 (T k).2.1 (T k).2.2.1 ∈ lw_g)
theorem ab_E_obj {G : ab_G} {S : ab_SH} {R : ab_RR} {I : ab_II} {r ci : Nat} (h : (S r).1 = ci) (hc : ci < 9) : ab_E G S R I r = .inr (ci, (List.range (ab_nf ci)).map (ab_F G R I ci r)) := by
  subst h
  simp [ab_E, hc]
theorem ab_E_int {G : ab_G} {S : ab_SH} {R : ab_RR} {I : ab_II} {r ci : Nat} (h : (S r).1 = ci) (h1 : ¬ ci < 9) (h2 : ci < 11) : ab_E G S R I r = .inl (ab_A G ci, (S r).2, .inl (I r)) := by
  subst h
  simp [ab_E, h1, h2]
theorem ab_E_ref {G : ab_G} {S : ab_SH} {R : ab_RR} {I : ab_II} {r ci : Nat} (h : (S r).1 = ci) (h1 : ¬ ci < 9) (h2 : ¬ ci < 11) : ab_E G S R I r = .inl (ab_A G ci, (S r).2, .inr (.inr (.inr (.inr (fun i => (R r i).map (ab_R G)))))) := by
  subst h
  simp [ab_E, h1, h2]
/-- what is at a cell depends on its own planes -/
theorem ab_E_congr {G : ab_G} {S S' : ab_SH} {R R' : ab_RR} {I I' : ab_II} {j : Nat} (h1 : S' j = S j) (h2 : R' j = R j) (h3 : I' j = I j) : ab_E G S' R' I' j = ab_E G S R I j := by
  unfold ab_E ab_F
  rw [h1, h2, h3]
