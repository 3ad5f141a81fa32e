/-! ===== the law, from its entry ===== -/
set_option maxRecDepth 100000 in
theorem iL_0 : Cond.instantiable RX0 12 ∈ hp_tbl := hp_in (List.mem_append_right _ (List.mem_append_right _ (List.mem_append_left _ (List.mem_of_getElem? (i := 175) (by decide +kernel))))) rfl
set_option maxRecDepth 100000 in
theorem iL_1 : Cond.instantiable RX1 10 ∈ hp_tbl := hp_in (List.mem_append_right _ (List.mem_append_left _ (List.mem_of_getElem? (i := 79) (by decide +kernel)))) rfl
set_option maxRecDepth 100000 in
theorem iL_2 : Cond.instantiable RX2 16 ∈ hp_tbl := hp_in (List.mem_append_right _ (List.mem_append_left _ (List.mem_of_getElem? (i := 221) (by decide +kernel)))) rfl
set_option maxRecDepth 100000 in
theorem iL_3 : Cond.instantiable RX3 20 ∈ hp_tbl := hp_in (List.mem_append_right _ (List.mem_append_right _ (List.mem_append_left _ (List.mem_of_getElem? (i := 108) (by decide +kernel))))) rfl
set_option maxRecDepth 100000 in
theorem iL_4 : Cond.instantiable RX4 10 ∈ hp_tbl := hp_in (List.mem_append_right _ (List.mem_append_left _ (List.mem_of_getElem? (i := 26) (by decide +kernel)))) rfl
set_option maxRecDepth 100000 in
theorem iL_5 : Cond.instantiable RX5 3 ∈ hp_tbl := hp_in (List.mem_append_right _ (List.mem_append_right _ (List.mem_append_left _ (List.mem_of_getElem? (i := 90) (by decide +kernel))))) rfl
set_option maxRecDepth 100000 in
theorem iL_6 : Cond.instantiable RX6 3 ∈ hp_tbl := hp_in (List.mem_append_right _ (List.mem_append_left _ (List.mem_of_getElem? (i := 57) (by decide +kernel)))) rfl
set_option maxRecDepth 100000 in
theorem iL_7 : Cond.instantiable RX7 1 ∈ hp_tbl := hp_in (List.mem_append_right _ (List.mem_append_right _ (List.mem_append_left _ (List.mem_of_getElem? (i := 63) (by decide +kernel))))) rfl
set_option maxRecDepth 100000 in
theorem iL_8 : Cond.instantiable RX8 5 ∈ hp_tbl := hp_in (List.mem_append_right _ (List.mem_append_right _ (List.mem_append_left _ (List.mem_of_getElem? (i := 57) (by decide +kernel))))) rfl
set_option maxRecDepth 100000 in
theorem iL_9 : Cond.instantiable RX9 9 ∈ hp_tbl := hp_in (List.mem_append_right _ (List.mem_append_left _ (List.mem_of_getElem? (i := 120) (by decide +kernel)))) rfl
set_option maxRecDepth 100000 in
theorem iL_10 : Cond.instantiable RX10 5 ∈ hp_tbl := hp_in (List.mem_append_right _ (List.mem_append_left _ (List.mem_of_getElem? (i := 32) (by decide +kernel)))) rfl
set_option maxRecDepth 100000 in
theorem iL_11 : Cond.instantiable RX11 6 ∈ hp_tbl := hp_in (List.mem_append_right _ (List.mem_append_left _ (List.mem_of_getElem? (i := 18) (by decide +kernel)))) rfl
set_option maxRecDepth 100000 in
theorem iL_12 : Cond.instantiable RX12 64 ∈ hp_tbl := hp_in (List.mem_append_right _ (List.mem_append_right _ (List.mem_append_right _ (List.mem_append_right _ (List.mem_append_right _ (List.mem_append_left _ (List.mem_of_getElem? (i := 127) (by decide +kernel)))))))) rfl
theorem lw_nst : ∀ q ∈ hp_nst, Cond.methodLinkNest q.1 q.2.1 q.2.2.1 q.2.2.2 ∈ lw_tbl := by decide +kernel
theorem lw_le {i L : Nat} (hi : i ≤ 5000) (hL : L ≤ 2560) : (nI L - nI 5 < nI i) ↔ L < i + 5 := by
  rw [Int32.lt_iff_toInt_lt, Int32.toInt_sub, nI_toInt (by omega), nI_toInt (by omega), nI_toInt (by omega)]
  rw [Int.bmod_eq_of_le (by omega) (by omega)]
  omega
theorem lw_sw (x : Int32) : (∃ k, k < 27 ∧ x = nI k) ∨ (x.toInt < 0 ∨ 26 < x.toInt) := by
  by_cases h : x.toInt < 0 ∨ 26 < x.toInt
  · exact Or.inr h
  · exact Or.inl ⟨x.toInt.toNat, by omega, Int32.toInt_inj.mp (by rw [nI_toInt (by omega)]; omega)⟩
theorem lw_known {s : State} {args : Array Value} (hts : ∀ w ∈ hp_tbl, w.before args s = true) (o : ClassId) : ∀ c : Nat, ∃ x : ClassId × (Nat → Nat), ∀ q : vw_C, vwCl[c]? = some q → u_Kn s q.1 q.2.1 q.2.2 x.1 x.2 := by
  intro c
  match c with
  | 0 => obtain ⟨a, i, h⟩ := u_known (C := RX0) (T := TX0) (N := 12) (n := 12) hts in_0 (hts _ iL_0); exact ⟨(a, i), fun q hq => by cases hq; exact h⟩
  | 1 => obtain ⟨a, i, h⟩ := u_known (C := RX1) (T := TX1) (N := 10) (n := 10) hts in_1 (hts _ iL_1); exact ⟨(a, i), fun q hq => by cases hq; exact h⟩
  | 2 => obtain ⟨a, i, h⟩ := u_known (C := RX2) (T := TX2) (N := 16) (n := 16) hts in_2 (hts _ iL_2); exact ⟨(a, i), fun q hq => by cases hq; exact h⟩
  | 3 => obtain ⟨a, i, h⟩ := u_known (C := RX3) (T := TX3) (N := 20) (n := 20) hts in_3 (hts _ iL_3); exact ⟨(a, i), fun q hq => by cases hq; exact h⟩
  | 4 => obtain ⟨a, i, h⟩ := u_known (C := RX4) (T := TX4) (N := 10) (n := 10) hts in_4 (hts _ iL_4); exact ⟨(a, i), fun q hq => by cases hq; exact h⟩
  | 5 => obtain ⟨a, i, h⟩ := u_known (C := RX5) (T := TX5) (N := 3) (n := 3) hts in_5 (hts _ iL_5); exact ⟨(a, i), fun q hq => by cases hq; exact h⟩
  | 6 => obtain ⟨a, i, h⟩ := u_known (C := RX6) (T := TX6) (N := 3) (n := 3) hts in_6 (hts _ iL_6); exact ⟨(a, i), fun q hq => by cases hq; exact h⟩
  | 7 => obtain ⟨a, i, h⟩ := u_known (C := RX7) (T := TX7) (N := 1) (n := 1) hts in_7 (hts _ iL_7); exact ⟨(a, i), fun q hq => by cases hq; exact h⟩
  | 8 => obtain ⟨a, i, h⟩ := u_known (C := RX8) (T := TX8) (N := 5) (n := 5) hts in_8 (hts _ iL_8); exact ⟨(a, i), fun q hq => by cases hq; exact h⟩
  | 9 => obtain ⟨a, i, h⟩ := u_known (C := RX9) (T := TX9) (N := 9) (n := 9) hts in_9 (hts _ iL_9); exact ⟨(a, i), fun q hq => by cases hq; exact h⟩
  | 10 => obtain ⟨a, i, h⟩ := u_known (C := RX10) (T := TX10) (N := 5) (n := 5) hts in_10 (hts _ iL_10); exact ⟨(a, i), fun q hq => by cases hq; exact h⟩
  | 11 => obtain ⟨a, i, h⟩ := u_known (C := RX11) (T := TX11) (N := 6) (n := 6) hts in_11 (hts _ iL_11); exact ⟨(a, i), fun q hq => by cases hq; exact h⟩
  | 12 => obtain ⟨a, i, h⟩ := u_known (C := RX12) (T := TX12) (N := 64) (n := 64) hts in_12 (hts _ iL_12); exact ⟨(a, i), fun q hq => by cases hq; exact h⟩
  | k + 13 => exact ⟨(o, id), fun q hq => by simp [vwCl] at hq⟩
theorem lw_arrs {s : State} {args : Array Value} {ty : FieldType} (hra : ∀ (U : State) (cA : ClassId), U.vm.findClass ("[" ++ ty.toString) = some cA → va_RA U cA ty) (h : (Cond.arrayClass ty).before args s = true) : ∃ cA : ClassId, ArrOfT s cA ty ∧ va_RA s cA ty := by
  obtain ⟨c, k, comp, h1, h2, h3⟩ := Cond.arrayClass_spec h
  exact ⟨c, fun n z => ⟨fun k h => (by cases h), k, h2, comp, h3⟩, hra s c h1⟩
section
variable {p : Program} {l : Launch} {e : Env} {s : State} {m : MethodId} {below : List Frame} {meth : Method} {c : Code} {cs : Nat → ClassId} {D : va_G} {b L : Nat} {xs : Nat → Int32} {hB hM : hp_H}
theorem lw_exit (E : hp_Env p room_1 s m #[.ref b] meth c cs D RL code 4 ret) {i : Nat} : lw_G p l e s m b below meth c cs D hB hM 1143 (lw_lv s b i) [] := by
  refine gi_iconst E 1 dL_1143 (by decide) ?_
  intro H locs ls hP hS hl
  refine va_forget (fun q hq => hS.2.2 q hq) ?_
  refine W.widen (k := 600000) (n := 7302250) (by decide) (by decide) ?_
  exact lw_ret E.1 E.2.1 E.2.2.2.2.2.2.2.1 E.2.2.2.2.2.2.1 dL_1144
set_option maxRecDepth 20000 in
theorem lw_loop (E : hp_Env p room_1 s m #[.ref b] meth c cs D RL code 4 ret) (hX : va_X b L xs s s.heap) (hbl : b < s.heap.size) (hL : L ≤ 2560) :
    ∀ (n i : Nat), i ≤ 3000 → L < i + n → ∀ hB hM : hp_H, R hB hM → lw_G p l e s m b below meth c cs D hB hM 18 (lw_lv s b i) [] := by
  intro n
  induction n with
  | zero =>
    intro i h0 hn hB hM hR
    refine gi_iload_n E 3 dL_18 rfl rfl ?_
    refine gi_aload_n E 0 dL_19 rfl rfl ?_
    refine lw_slen E hX hbl dL_20 ?_
    refine gi_iconst E (nI 5) dL_21 (by decide) ?_
    refine gi_isub E dL_22 ?_
    exact gi_icmp_gt E 1143 dL_23 (by decide) (fun _ => lw_exit E) (fun z => absurd ((lw_le (by omega) hL).mpr (by omega)) z)
  | succ n ih =>
    intro i h0 hn hB hM hR
    refine gi_iload_n E 3 dL_18 rfl rfl ?_
    refine gi_aload_n E 0 dL_19 rfl rfl ?_
    refine lw_slen E hX hbl dL_20 ?_
    refine gi_iconst E (nI 5) dL_21 (by decide) ?_
    refine gi_isub E dL_22 ?_
    refine gi_icmp_gt E 1143 dL_23 (by decide) (fun _ => lw_exit E) (fun z => ?_)
    have hi : ¬ L < i + 5 := fun q => z ((lw_le (by omega) hL).mpr q)
    refine gi_aload_n E 0 dL_26 rfl rfl ?_
    refine gi_iload_n E 3 dL_27 rfl rfl ?_
    refine lw_sld E hX hbl (vp_in_nI (by omega) (by omega)) dL_28 ?_
    refine gi_bipush E (nI 31) dL_29 (by decide) ?_
    refine gi_iand E dL_31 ?_
    have nx : ∀ hB hM : hp_H, R hB hM → lw_G p l e s m b below meth c cs D hB hM 1137 (lw_lv s b i) [] := fun hB hM hR => by
      refine gi_iinc E 3 (nI (i + 5)) dL_1137 rfl (by rw [show Int32.ofInt 5 = nI 5 by decide, nI_add]) (by decide) rfl rfl ?_
      exact gi_goto E 18 dL_1140 (by decide) (ih (i + 5) (by omega) (by omega) hB hM hR)
    rcases lw_sw (xs (nI i).toNatClampNeg &&& nI 31) with ⟨k, hk, ek⟩ | ho
    · match k, hk, ek with
      | 0, hk, ek => exact gi_tswV (off := 124) E (nI 0) 156 dL_32 ek (by decide) (by decide) (by decide) (by decide) (lw_c0 E hX hbl hL (by omega) hR nx)
      | 1, hk, ek => exact gi_tswV (off := 167) E (nI 1) 199 dL_32 ek (by decide) (by decide) (by decide) (by decide) (lw_c1 E hX hbl hL (by omega) hR nx)
      | 2, hk, ek => exact gi_tswV (off := 190) E (nI 2) 222 dL_32 ek (by decide) (by decide) (by decide) (by decide) (lw_c2 E hX hbl hL (by omega) hR nx)
      | 3, hk, ek => exact gi_tswV (off := 243) E (nI 3) 275 dL_32 ek (by decide) (by decide) (by decide) (by decide) (lw_c3 E hX hbl hL (by omega) hR nx)
      | 4, hk, ek => exact gi_tswV (off := 276) E (nI 4) 308 dL_32 ek (by decide) (by decide) (by decide) (by decide) (lw_c4 E hX hbl hL (by omega) hR nx)
      | 5, hk, ek => exact gi_tswV (off := 351) E (nI 5) 383 dL_32 ek (by decide) (by decide) (by decide) (by decide) (lw_c5 E hX hbl hL (by omega) hR nx)
      | 6, hk, ek => exact gi_tswV (off := 404) E (nI 6) 436 dL_32 ek (by decide) (by decide) (by decide) (by decide) (lw_c6 E hX hbl hL (by omega) hR nx)
      | 7, hk, ek => exact gi_tswV (off := 457) E (nI 7) 489 dL_32 ek (by decide) (by decide) (by decide) (by decide) (lw_c7 E hX hbl hL (by omega) hR nx)
      | 8, hk, ek => exact gi_tswV (off := 510) E (nI 8) 542 dL_32 ek (by decide) (by decide) (by decide) (by decide) (lw_c8 E hX hbl hL (by omega) hR nx)
      | 9, hk, ek => exact gi_tswV (off := 549) E (nI 9) 581 dL_32 ek (by decide) (by decide) (by decide) (by decide) (lw_c9 E hX hbl hL (by omega) hR nx)
      | 10, hk, ek => exact gi_tswV (off := 562) E (nI 10) 594 dL_32 ek (by decide) (by decide) (by decide) (by decide) (lw_c10 E hX hbl hL (by omega) hR nx)
      | 11, hk, ek => exact gi_tswV (off := 595) E (nI 11) 627 dL_32 ek (by decide) (by decide) (by decide) (by decide) (lw_c11 E hX hbl hL (by omega) hR nx)
      | 12, hk, ek => exact gi_tswV (off := 638) E (nI 12) 670 dL_32 ek (by decide) (by decide) (by decide) (by decide) (lw_c12 E hX hbl hL (by omega) hR nx)
      | 13, hk, ek => exact gi_tswV (off := 691) E (nI 13) 723 dL_32 ek (by decide) (by decide) (by decide) (by decide) (lw_c13 E hX hbl hL (by omega) hR nx)
      | 14, hk, ek => exact gi_tswV (off := 734) E (nI 14) 766 dL_32 ek (by decide) (by decide) (by decide) (by decide) (lw_c14 E hX hbl hL (by omega) hR nx)
      | 15, hk, ek => exact gi_tswV (off := 757) E (nI 15) 789 dL_32 ek (by decide) (by decide) (by decide) (by decide) (lw_c15 E hX hbl hL (by omega) hR nx)
      | 16, hk, ek => exact gi_tswV (off := 800) E (nI 16) 832 dL_32 ek (by decide) (by decide) (by decide) (by decide) (lw_c16 E hX hbl hL (by omega) hR nx)
      | 17, hk, ek => exact gi_tswV (off := 823) E (nI 17) 855 dL_32 ek (by decide) (by decide) (by decide) (by decide) (lw_c17 E hX hbl hL (by omega) hR nx)
      | 18, hk, ek => exact gi_tswV (off := 856) E (nI 18) 888 dL_32 ek (by decide) (by decide) (by decide) (by decide) (lw_c18 E hX hbl hL (by omega) hR nx)
      | 19, hk, ek => exact gi_tswV (off := 869) E (nI 19) 901 dL_32 ek (by decide) (by decide) (by decide) (by decide) (lw_c19 E hX hbl hL (by omega) hR nx)
      | 20, hk, ek => exact gi_tswV (off := 892) E (nI 20) 924 dL_32 ek (by decide) (by decide) (by decide) (by decide) (lw_c20 E hX hbl hL (by omega) hR nx)
      | 21, hk, ek => exact gi_tswV (off := 915) E (nI 21) 947 dL_32 ek (by decide) (by decide) (by decide) (by decide) (lw_c21 E hX hbl hL (by omega) hR nx)
      | 22, hk, ek => exact gi_tswV (off := 964) E (nI 22) 996 dL_32 ek (by decide) (by decide) (by decide) (by decide) (lw_c22 E hX hbl hL (by omega) hR nx)
      | 23, hk, ek => exact gi_tswV (off := 1023) E (nI 23) 1055 dL_32 ek (by decide) (by decide) (by decide) (by decide) (lw_c23 E hX hbl hL (by omega) hR nx)
      | 24, hk, ek => exact gi_tswV (off := 1046) E (nI 24) 1078 dL_32 ek (by decide) (by decide) (by decide) (by decide) (lw_c24 E hX hbl hL (by omega) hR nx)
      | 25, hk, ek => exact gi_tswV (off := 1059) E (nI 25) 1091 dL_32 ek (by decide) (by decide) (by decide) (by decide) (lw_c25 E hX hbl hL (by omega) hR nx)
      | 26, hk, ek => exact gi_tswV (off := 1082) E (nI 26) 1114 dL_32 ek (by decide) (by decide) (by decide) (by decide) (lw_c26 E hX hbl hL (by omega) hR nx)
      | k + 27, hk, _ => exact absurd hk (by omega)
    · exact gi_tswD E 1137 dL_32 ho (by decide) (nx hB hM hR)
theorem gi_weak {R : Room} {args : Array Value} {A : Nat → Prop} {nL cells slots pc : Nat} {Q : State → Prop} {I I' : Heap → Prop} {lv : List (Nat × Value)} {st : List Value} (h : ∀ H, I H → I' H) (k : gi_G p l e R s m args below meth c A nL cells slots Q I' pc lv st) : gi_G p l e R s m args below meth c A nL cells slots Q I pc lv st := fun H locs ls hP hS hl => k H locs ls (h H hP) hS hl
theorem lw_newM {R : Room} {args : Array Value} {A : Nat → Prop} {nL cells slots pc : Nat} {Q : State → Prop} {lv : List (Nat × Value)} {st : List Value} {own : String} {cc : ByteArray} {ret1 : Option FieldType} {S : List hp_S} {h : hp_H} {b0 : Nat} {J : Heap → Prop} (hJ : ∀ H H1 : Heap, J H → (∀ q : Nat, q < H.size → H1[q]? = H[q]?) → J H1) (E : hp_Env p R s m args meth c cs D own cc nL ret1) {idx ci N n cells' slots' : Nat} {ds : List (Nat × Nat × Nat)} {S' : List hp_S} (F : hp_Fn own idx ci N ds) (hn : S.length = n) (hz : ∀ j, h n j = 0) (hS' : S ++ [.inl (ci, ds)] = S') (hc1 : cells + 1 = cells') (hs1 : slots + N = slots') (hR : cells' ≤ R.cells ∧ slots' ≤ R.slots) (hd : decode cc pc = .ok (.new idx, 3)) (k : gi_G p l e R s m args below meth c A nL cells' slots' Q (fun H => J H ∧ mk_I D cs b0 S' h H) (pc + 3) lv (.ref (mk_ad b0 n) :: st)) : gi_G p l e R s m args below meth c A nL cells slots Q (fun H => J H ∧ mk_I D cs b0 S h H) pc lv st := by
  subst hn; subst hS'; subst hc1; subst hs1
  obtain ⟨C, T, ty0, hc, hin, hty, hcl, hinst, hini, hb⟩ := F
  intro H locs ls hJI hS hl
  obtain ⟨hj, hI⟩ := hJI
  have hKn := E.2.2.2.2.2.1.1 ci _ hc
  refine W.newcK E.1 E.2.1 E.2.2.2.1 (E.2.2.2.2.1 _ hcl) (E.2.2.2.2.1 _ hinst) (E.2.2.2.2.1 _ hini) rfl hd hR.1 hR.2 hKn.2.1 rfl fun H1 kC hkC e1 z1 o1 => ?_
  have hat : va_at D vwCl (H.size, hp_E cs (mk_ad b0) h S.length (.inl (ci, ds))) H1 := ⟨_, hc, (u_born ty0 E.2.2.2.2.1 hin hKn hkC e1 hty).to (fun j hj => by
    obtain ⟨g1, g2⟩ := hb j hj
    simp only [vp_V, List.getD_eq_getElem?_getD, hp_fs_get g2, Option.getD_some, mk_dv g1 (hz j)])⟩
  have K := k H1 locs ls ⟨hJ H H1 hj o1, mk_grow _ hI z1 o1 hat⟩ ⟨Nat.le_trans hS.1 (by omega), fun x h1 h2 => (o1 x (Nat.lt_of_lt_of_le h1 hS.1)).trans (hS.2.1 x h1 h2), hS.2.2⟩ hl
  rw [show mk_ad b0 S.length = H.size from hI.1.symm] at K
  exact K
end
set_option maxHeartbeats 4000000 in
set_option maxRecDepth 100000 in
/-- THE LAW, from its entry -/
theorem whole_start {p : Program} {e : Env} {s : State} {m : MethodId} {below : List Frame} {meth : Method} {c : Code} (l : Launch) {b L : Nat} {xs : Nat → Int32} (hL : L ≤ 2560) (C0 : lw_At p s m meth c b L xs) : W p l e room_1 s m #[Value.ref b] below meth c s.heap [] 0 0 (lw_Z below #[Value.ref b] s) (entryFrame m ([Value.ref b] : List Value).toArray 4) := by
  obtain ⟨hx, hb, hr, hml, hown, hts0, hX, hbl, hlocks, hgv⟩ := C0
  have hts : ∀ w ∈ hp_tbl, w.before #[Value.ref b] s = true := fun w hw => hts0 w (List.mem_filter.mp hw).1
  obtain ⟨f, hf⟩ := Classical.axiomOfChoice (lw_known hts m.cls)
  obtain ⟨cI, hI⟩ := lw_arrs (ty := .int) (fun _ _ q => q) (hts _ af_int)
  obtain ⟨cJ, hJ⟩ := lw_arrs (ty := .long) (fun _ _ q => q) (hts _ af_long)
  obtain ⟨cZ, hZ⟩ := lw_arrs (ty := .boolean) (fun _ _ q => q) (hts _ af_boolean)
  obtain ⟨D, hD⟩ : ∃ D : va_G, D = (fun c => (f c).1, fun c => (f c).2) := ⟨_, rfl⟩
  obtain ⟨cs, h0, h1, h2⟩ : ∃ cs : Nat → ClassId, cs 0 = cI ∧ cs 1 = cJ ∧ cs 2 = cZ := ⟨fun k => match k with
    | 0 => cI
    | 1 => cJ
    | _ => cZ, rfl, rfl, rfl⟩
  have hK : va_K D vwCl (hp_tys cs) s := by
    refine ⟨fun c q hq => ?_, fun k q hk => ?_⟩
    · rw [hD]; exact hf c q hq
    · match k, hk with
      | 0, hk => cases hk; rw [h0]; exact hI
      | 1, hk => cases hk; rw [h1]; exact hJ
      | 2, hk => cases hk; rw [h2]; exact hZ
      | k + 3, hk => simp at hk
  have hN : hp_N s := fun q hq => va_Nw.of rfl (hts0 _ (lw_nst q hq))
  have E : hp_Env p room_1 s m #[.ref b] meth c cs D RL code 4 ret := ⟨hx, hb, hml, hown, hts, hK, hlocks, hr, hN⟩
  have K : gi_G p l e room_1 s m #[.ref b] below meth c (mk_A s.heap.size) 4 0 0 (lw_Z below #[.ref b] s) (mk_I D cs s.heap.size [] zB0) 0 [(0, .ref b)] [] := by
    refine mk_new (n := 0) (cells' := 1) (slots' := 6) (S' := ((SB.take 1).set 0 (.inl (11, [(3, 0, 0), (3, 0, 0), (3, 0, 0), (3, 0, 0), (3, 0, 0), (3, 0, 0)])))) E nL_7 rfl (fun _ => rfl) (by decide +kernel) rfl rfl (by decide) dL_0 ?_
    refine gi_dup E rfl dL_3 ?_
    refine mk_callP (As := []) (cells' := 72) (slots' := 32215) E (mkB_0_X11_init l cs D s.heap.size) Fi_X11_init mL_9 ⟨rfl, rfl⟩ (by decide) rfl rfl (by decide) rfl rfl (Nat.le_of_ble_eq_true rfl) dL_4 ?_
    refine gi_astore_n E (lv' := [(0, .ref b), (1, .ref (mk_ad s.heap.size 0))]) dL_7 rfl (by decide) rfl rfl ?_
    refine gi_weak (I' := fun H => va_P D vwCl (hp_W SB cs (mk_ad s.heap.size) zB6) H ∧ mk_I D cs (s.heap.size + 72) [] zM0 H) (fun H q => ⟨q.2, by rw [q.1, lw_lB]; rfl, fun k x hx => by simp [hp_W, hp_mi] at hx⟩) ?_
    refine lw_newM (n := 0) (cells' := 73) (slots' := 32279) (S' := ((SM.take 1).set 0 (.inl (12, [(0, 0, 0), (3, 0, 0), (3, 0, 0), (3, 0, 0), (0, 0, 0), (3, 0, 0), (3, 0, 0), (3, 0, 0), (3, 0, 0), (3, 0, 0), (3, 0, 0), (0, 0, 0), (3, 0, 0), (3, 0, 0), (3, 0, 0), (0, 0, 0), (3, 0, 0), (3, 0, 0), (3, 0, 0), (3, 0, 0), (3, 0, 0), (0, 0, 0), (3, 0, 0), (3, 0, 0), (3, 0, 0), (3, 0, 0), (3, 0, 0), (3, 0, 0), (3, 0, 0), (3, 0, 0), (0, 0, 0), (0, 0, 0), (3, 0, 0), (0, 0, 0), (0, 0, 0), (0, 0, 0), (3, 0, 0), (3, 0, 0), (3, 0, 0), (3, 0, 0), (0, 0, 0), (3, 0, 0), (3, 0, 0), (3, 0, 0), (3, 0, 0), (3, 0, 0), (0, 0, 0), (0, 0, 0), (0, 0, 0), (0, 0, 0), (0, 0, 0), (3, 0, 0), (3, 0, 0), (3, 0, 0), (3, 0, 0), (3, 0, 0), (3, 0, 0), (3, 0, 0), (3, 0, 0), (3, 0, 0), (3, 0, 0), (3, 0, 0), (3, 0, 0), (3, 0, 0)])))) (fun H H1 q o => q.kept (fun k x hx => o x.1 ((q k x hx).lt))) E nL_10 rfl (fun _ => rfl) (by decide +kernel) rfl rfl (by decide) dL_8 ?_
    refine gi_dup E rfl dL_11 ?_
    refine mk_call (As := []) (cells' := 121) (slots' := 89404) (J' := lw_I D cs s.heap.size zB6 zM0) E (mkM_0_X12_init l cs D (s.heap.size + 72)) (fun _ q => Nat.le_trans (Nat.le_add_right _ _) q) Fi_X12_init mL_12 ⟨rfl, rfl⟩ (by decide) rfl rfl (by decide) rfl rfl (Nat.le_of_ble_eq_true rfl) dL_12 (fun _ q => q.2) (fun H H1 q _ hk j => ⟨lw_keepB q.1 hk, j.2⟩) ?_
    refine gi_astore_n E (lv' := [(0, .ref b), (1, .ref (mk_ad s.heap.size 0)), (2, .ref (mk_ad (s.heap.size + 72) 0))]) dL_15 rfl (by decide) rfl rfl ?_
    refine gi_iconst E (nI 0) dL_16 (by decide) ?_
    refine gi_istore_n E (lv' := lw_lv s b 0) dL_17 rfl (by decide) rfl rfl ?_
    exact lw_loop E hX hbl hL (L + 1) 0 (by decide) (by omega) _ _ fR
  have hl := lv_entry [.ref b] (n := 4) (Nat.le_of_ble_eq_true rfl)
  rw [lg_entry_eq]
  exact K s.heap [] _ ⟨rfl, fun k x hx => by simp [hp_W, hp_mi] at hx⟩ va_S.rf ⟨hl, hp_all1_args [.ref b] 0 rfl⟩

set_option maxHeartbeats 4000000 in
theorem lw_walk (l : Launch) (b : Addr) (xs : List Int32) : MetFree l x (headSpec (Jvm.Cond.code x code maxLocals ret :: tables_1) room_1) (lw_P b xs) (fun _ _ _ _ _ => True) lw_Q := by
  refine MetFree.of_bodyS (code := code) (maxLocals := maxLocals) (ret := ret) (by decide) ?_ ?_
  · intro args s m h hn
    obtain ⟨meth, c, h1, h2, h3, h4, h5, h6, -, -⟩ := Cond.code_spec hn (atoms_spec (ws := Jvm.Cond.code x code maxLocals ret :: tables_1) h _ List.mem_cons_self)
    exact ⟨meth, c, h1, h2, h3, h4, h5, h6⟩
  · intro p e s m args below meth c s₁ B hml0 hP _
    obtain ⟨rfl, hx, hbd, hgv⟩ := hP
    obtain ⟨scr, harrAt, hlist, hof, hsmall⟩ := hx
    obtain ⟨hcb, hkn, -, -⟩ := State.arrayAt?_spec harrAt
    have hown : s.vm.findClass R_law = some m.cls := findClass_of_methodNamed B.named
    have hts0 : ∀ c ∈ (Jvm.Cond.code x code maxLocals ret :: tables_1), c.before #[Value.ref b] s = true := atoms_spec (ws := Jvm.Cond.code x code maxLocals ret :: tables_1) B.pre
    have hts : ∀ w ∈ lw_tbl, w.before #[Value.ref b] s = true := k2_hts_sels lw_privs (fun w hw => hts0 w (List.mem_cons_of_mem _ hw)) lw_privs_ok
    have hml : c.maxLocals = 4 := B.maxLocals_eq (hts0 _ List.mem_cons_self)
    have X₀ : Stand p l e room_1 s m #[Value.ref b] below meth c s₁ [] 0 0 := Stand.of_body B
    have hh0 : s₁.heap = s.heap := by rw [B.state]; rfl
    have hsz : scr.slots.size = xs.length := by rw [← Array.length_toList, hlist, List.length_map]
    have hval : ∀ j : Nat, j < xs.length → scr.slots[j]? = some (.int (xs.getD j 0)) := fun j hj => by
      rw [← Array.getElem?_toList, hlist]
      simp [hj]
    have hbl : b < s.heap.size := (Array.getElem?_eq_some_iff.mp hcb).1
    have hX : va_X b xs.length (fun j => xs.getD j 0) s s.heap := ⟨scr, hcb, hof, hkn, hsz, hval⟩
    have K : W p l e room_1 s m #[Value.ref b] below meth c s₁.heap [] 0 0 (lw_Z below #[Value.ref b] s) (entryFrame m ([Value.ref b] : List Value).toArray 4) := by
      rw [hh0]
      exact whole_start l hbd ⟨B.exec, B.bytes, B.returns, hml, hown, hts, hX, hbl, B.notSynchronized, hgv⟩
    obtain ⟨t, a1, o, b1, b2, b3⟩ := K s₁ rfl X₀
    exact ⟨t, o, a1, b1, b2, b3⟩
theorem lw_pre_spec {args : Array Value} {s : State} (h : (Jvm.Cond.and given_1 narrow_1).before args s = true) (hr : rest_1_c.before args s = true) : ∃ (b : Addr) (xs : List Int32), lw_P b xs args s := by
  have hs := flat_of_before _ h
  have hq := flat_of_before _ hr
  have hc : (Cond.count 1).before args s = true := hs _ (by decide +kernel)
  have harr : (Cond.arrayOf (.arg 0) .int).before args s = true := hs _ (by decide +kernel)
  have hle : (Cond.le (.length (.arg 0)) (.int 2560)).before args s = true := hs _ (by decide +kernel)
  have hlen : (Cond.isInt (.length (.arg 0))).before args s = true := hq _ (by decide +kernel)
  have hall : (Cond.all (.arg 0) (.isInt (.elem (.arg 0) (.index 0)))).before args s = true := hq _ (by decide +kernel)
  obtain ⟨b, xs, hb, hx⟩ := State.ints_of_pre rfl harr hlen hall
  have hsm : xs.length < 2 ^ 31 := hx.choose_spec.2.2.2
  have hev : (Term.length (.arg 0)).eval args s none [] s = some (.int xs.length.toInt32) := hx.length_eval hb
  have hv := Cond.le_ints hev (show (Term.int 2560).eval args s none [] s = some (.int 2560) from rfl)
  have hd : xs.length.toInt32 ≤ 2560 := by
    simpa [Cond.before, Cond.holds, hv] using hle
  have hN : xs.length ≤ 2560 := (Int32.ofNat_le_ofNat hsm (by decide)).mp (show Int32.ofNat xs.length ≤ Int32.ofNat 2560 from hd)
  exact ⟨b, xs, Cond.one_arg hc (show args[0]? = some (.ref b) from hb), hx, hN, h⟩
theorem lw_comes (l : Launch) : Comes l x (Jvm.Cond.code x code maxLocals ret :: tables_1) room_1 (fun tb e args s => Calls_1 tb e args s ∧ rest_1 tb e args s ∧ Pre_1 tb e args s)
    (fun _ _ args s o t => lw_Q args s o t) := by
  intro p e ha hc hk s m args below hf hfit hheap happ hpre
  obtain ⟨b, xs, hP⟩ := lw_pre_spec hpre.2.2 hpre.2.1
  obtain ⟨k, o, h1, h2, h3, hQ⟩ := lw_walk l b xs p e ha hc hk s m args below hf ((Spec.applies_iff_loose hf).mp happ).1 hP trivial
  exact ⟨k, o, h1, h2, h3, hQ⟩
theorem lw_frame {s t : State} {o : Outcome} {args : Array Value} (h : Framed s o t [] 600000 7302250) :
    Framed s o t (fieldLocs frame_1_writes args s ++ arrayLocs frame_1_arrays args s ++ staticLocs frame_1_statics s) 600000 7302250 := h
theorem lw_limb (L : Cond) (hL : ∀ (args : Array Value) (s t : State), L.after args s (.returned (some (.int 1))) t = true) :
    ArmFor flags0 classFile x code maxLocals ret World_1 tables_1 room_1 Calls_1 rest_1 Pre_1
      (fun tb e a s o t => postC L tb e a s o t ∧ Framed s o t (fieldLocs frame_1_writes a s ++ arrayLocs frame_1_arrays a s ++ staticLocs frame_1_statics s) 600000 7302250) := by
  intro l _ _ _ p e ha hc hk s m args below hf hfit hheap happ hpre
  obtain ⟨k, o, h1, h2, h3, rfl, hF⟩ := lw_comes l p e ha hc hk s m args below hf hfit hheap happ hpre
  exact ⟨k, _, h1, h2, h3, hL args s _, lw_frame hF⟩
theorem i_vc : Claimed_1_1 ∧ Claimed_1_2 := ⟨lw_limb limb_1_1 (fun args s t => by simp [limb_1_1, Cond.after, Cond.holds, Cond.value]), lw_limb limb_1_2 (fun args s t => Cond.after_iff.mpr (by
  first | (rw [show limb_1_2 = Cond.eq .result (.int 1) from rfl, Cond.eq_ints (x := 1) (y := 1) rfl rfl]; simp; done) | (simp [limb_1_2, Cond.value, Term.eval]; done)))⟩
