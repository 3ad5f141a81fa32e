/-! ===== the class goes through all states ===== -/
def FY (b b' : hp_H) : Prop := ∀ k, k ≠ 16 → k ≠ 46 → k ≠ 48 → k ≠ 49 → (k < 35 ∨ 43 < k) → b' k = b k
theorem FY.rf {b : hp_H} : FY b b := fun _ _ _ _ _ _ => rfl
theorem FY.tr {a b c : hp_H} (h : FY a b) (k : FY b c) : FY a c := fun x h0 h1 h2 h3 h4 => (k x h0 h1 h2 h3 h4).trans (h x h0 h1 h2 h3 h4)
theorem FX.y {a b : hp_H} (h : FX a b) : FY a b := fun x h0 _ h1 h2 h3 => h x h0 h1 h2 h3
theorem gB_0 {g : hp_H} {s j : Nat} : gB g s 0 j = g 0 j := by unfold gB; simp [hp_at]
theorem gB_k {g : hp_H} {s k : Nat} (h : k ≠ 31) : gB g s k = g k := by unfold gB; simp [hp_at, h]
theorem gB_N {g : hp_H} {s : Nat} : gN (gB g s) = gN g := by unfold gN; rw [gB_0]
theorem gB_K {g : hp_H} {s : Nat} : gK (gB g s) = gK g := by unfold gK; rw [gB_0]
theorem gB_d {g : hp_H} {s : Nat} : dg (gB g s) = dg g := by funext t k; unfold dg; rw [gB_k (by decide)]
theorem GW_B {p g : hp_H} {s : Nat} (w : GW p g) : GW p (gB g s) := GW_fr w (gB_k (by decide)) gB_0 (by rw [gB_0]; exact w.2.2.1) (by rw [gB_0]; exact w.2.2.2.1) (by rw [gB_0]; exact w.2.2.2.2.1)
theorem AB_B {p g b b' : hp_H} {q s : Nat} (a : AB p g q b) (hq : s ≤ q) (e : b' = hp_up b 36 s (b 35 3)) : AB p (gB g s) (s + 1) b' := by
  obtain ⟨w, a1, a2, a3, a4, a5, a6, a7, a8, a9, a10, a11⟩ := a
  have o : ∀ k, k ≠ 36 → b' k = b k := by intro k h1; rw [e]; simp [hp_at, h1]
  unfold AB
  rw [gB_N, gB_K, gB_d, gB_0, gB_0, gB_0, gB_0, gB_0, gB_0, gB_0, gB_0, gB_k (show 28 ≠ 31 by decide), gB_k (show 29 ≠ 31 by decide), gB_k (show 30 ≠ 31 by decide), gB_k (show 32 ≠ 31 by decide), gB_k (show 33 ≠ 31 by decide), gB_k (show 34 ≠ 31 by decide), gB_k (show 35 ≠ 31 by decide), o 35 (by decide), o 37 (by decide), o 38 (by decide), o 39 (by decide), o 40 (by decide), o 41 (by decide), o 42 (by decide)]
  refine ⟨GW_B w, a1, a2, a3, a4, a5, a6, a7, a8, a9, fun i hi => ?_, ?_⟩
  · rw [e]
    unfold gB
    simp only [hp_at, if_true, upd]
    by_cases z : i = s
    · rw [if_pos z, if_pos z]; exact a4
    · rw [if_neg z, if_neg z]; exact a10 i (by omega)
  · unfold HS HP
    rw [gB_N, gB_d, o 43 (by decide)]
    exact a11
theorem AB.mono {p g b : hp_H} {q q' : Nat} (a : AB p g q b) (h : q' ≤ q) : AB p g q' b := by
  obtain ⟨w, a1, a2, a3, a4, a5, a6, a7, a8, a9, a10, a11⟩ := a
  exact ⟨w, a1, a2, a3, a4, a5, a6, a7, a8, a9, fun i hi => a10 i (by omega), a11⟩
set_option maxHeartbeats 2000000 in
theorem s_goThrough {p g b : hp_H} {q st : Nat} {Q : hp_H → Prop} (v : VP p) (eq : EQ b p) (us : US p b) (a : AB p g q b) (hst : st < gN g) (hq : st ≤ q)
    (hQ : ∀ b', FY b b' → AB p (gB (List.foldl (pr st) (gB g st) (evs p (dg g st))) (st + 1)) (st + 2) b' → Q b') : q_X8_goThrough b (nI st) Q := by
  have v' := v
  obtain ⟨vs', vr, vc, vx, vt, v30⟩ := v'
  have n4 := gN_le a.1
  have hd := (a.1.2.2.2.2.2.1 st hst).2
  generalize hdd : dg g st = d at hd hQ
  have R3 := vr.1.2
  have C3 := vc.1.2
  unfold q_X8_goThrough
  refine s_load (d := d) (by omega) (fun j hj => by rw [← hdd]; exact a.2.2.2.2.2.2.2.1 st hst j hj) (by decide) (fun h1 f1 r1 => ⟨nu_in (by omega) (by decide), ?_⟩)
  intro h2 e2
  rw [nI_clamp (show st < 2 ^ 31 by omega)] at e2
  have a1 : AB p g q h1 := a.fs (fun k h1 h2 => f1 k (by omega))
  have a2 := AB_B a1 hq e2
  have f2 : ∀ k, k ≠ 46 → k ≠ 36 → h2 k = b k := fun k k1 k2 => by rw [e2, hp_at, if_neg k2]; exact f1 k k1
  have r2 : rw_B h2 46 d := fun j hj => by rw [e2, hp_at, if_neg (by decide)]; exact r1 j hj
  have y2 : FY b h2 := fun k _ k1 _ _ k4 => f2 k k1 (by omega)
  have eq2 : EQ h2 p := EQ.fs (fun k hk => f2 k (by omega) (by omega)) eq
  have us2 : US p h2 := us.fs (f2 21 (by decide) (by decide))
  generalize gB g st = G0 at a2 hQ
  have gN0 : gN G0 = gN g := by
    have h1 := a2.2.2.2.1; have h2 := a1.2.2.2.1
    have : h2 = h2 := rfl
    unfold gN
    rw [← h1, ← a.2.2.2.1, f2 35 (by decide) (by decide)]
  generalize hF : List.foldl (pr st) G0 (evs p d) = FIN at hQ
  unfold evs at hF
  rw [List.foldl_append] at hF
  -- the losses
  have losses : ∀ G1 h5, FX h2 h5 → AB p G1 (st + 1) h5 → gN G0 ≤ gN G1 → List.foldl (pr st) G1 (fl (lev p d) 0 (nt (p 0 11) - 0)) = FIN → hp_lp1h (fun v8 h9 B7 =>
        hp_jn0 (fun K11 =>
          ((h9 1 8) ≤ v8 →
            K11) ∧ (¬ (h9 1 8) ≤ v8 →
            ((h9 35 1) = 0 →
              vp_in v8 3 ∧
              hp_jn0h (fun K14 =>
                ((h9 34 v8.toNatClampNeg) = 0 →
                  K14 h9) ∧ (¬ (h9 34 v8.toNatClampNeg) = 0 →
                  q_X8_lose h9 (nI st) v8 (fun h16 =>
                  K14 h16))) (fun h15 =>
                ∀ v17 : Int32, v17 = v8 + (nI 1) →
                B7 v17 h15)) ∧ (¬ (h9 35 1) = 0 →
              K11))) (
          vp_in ((nI st) + (nI 1)) 401 ∧
          ∀ h18 : hp_H, h18 = hp_up h9 36 ((nI st) + (nI 1)).toNatClampNeg (h9 35 3) →
          Q h18)) (nI 0) h5 := by
    intro G1 h5 fx5 a5 gl5 hf5
    refine hp_lp1h_ind (fun x h => ∃ j g', x = nI j ∧ j ≤ nt (p 0 11) ∧ FX h2 h ∧ AB p g' (st + 1) h ∧ gN G0 ≤ gN g' ∧ List.foldl (pr st) g' (fl (lev p d) j (nt (p 0 11) - j)) = FIN) (fun x h => 3 - nt x) ?_ ⟨0, G1, rfl, by omega, fx5, a5, gl5, hf5⟩
    rintro x h ⟨j, g', rfl, hj, fx, ab, gle, hf⟩
    have n4' := gN_le ab.1
    have e18 : h 1 8 = nI (nt (p 0 11)) := by rw [fx 1 (by decide) (by decide) (by decide) (by decide), eq2.2.1.2.2.1]; exact vc.1.1
    rw [e18, nI_leI (by omega) (by omega), nI_clamp (show j < 2 ^ 31 by omega)]
    have done : g' = FIN → vp_in ((nI st) + (nI 1)) 401 ∧ ∀ h18 : hp_H, h18 = hp_up h 36 ((nI st) + (nI 1)).toNatClampNeg (h 35 3) → Q h18 := by
      rintro rfl
      rw [nI_add, nI_clamp (show st + 1 < 2 ^ 31 by omega)]
      refine ⟨nu_in (by omega) (by decide), fun h18 e18 => hQ h18 ?_ (AB_B ab (by omega) e18)⟩
      refine y2.tr (fx.y.tr (fun k _ _ _ _ k4 => by rw [e18, hp_at, if_neg (by omega)]))
    refine ⟨g' = FIN, ⟨fun c1 => ?_, fun c1 => ⟨fun c2 => ⟨nu_in (by omega) (by decide), ?_⟩, fun c2 => ?_⟩⟩, done⟩
    · rw [fl_0 (by omega)] at hf; exact hf
    case refine_3 => rw [pr_sp (by rw [← ab.2.2.1]; exact c2)] at hf; exact hf
    have jc : j < nt (p 0 11) := by omega
    rw [fl_s jc, List.foldl_append] at hf
    have e34 : h 34 j = p 12 j := by rw [fx 34 (by decide) (by decide) (by decide) (by decide), eq2.1.2.2.2.2.2.2.2.2.2.2.1]
    rw [e34]
    refine ⟨fun h' => ∃ g'', FX h2 h' ∧ AB p g'' (st + 1) h' ∧ gN G0 ≤ gN g'' ∧ List.foldl (pr st) g'' (fl (lev p d) (j + 1) (nt (p 0 11) - (j + 1))) = FIN, ⟨fun z => ?_, fun z => ?_⟩, ?_⟩
    · have : lev p d j = [] := by unfold lev; rw [cif_t z]
      rw [this] at hf
      exact ⟨g', fx, ab, gle, hf⟩
    · have : lev p d j = fl (le1 d j) 0 (d (42 + 4 * j) - 0) := by unfold lev; rw [cif_f z]
      rw [this] at hf
      refine s_lose v ab (by omega) (by omega) hd (fun i hi => by rw [fx 46 (by decide) (by decide) (by decide) (by decide)]; exact r2 i hi) (by omega) (fun h16 f16 a16 => ⟨_, fx.tr f16, a16, Nat.le_trans gle (fold_le _ n4'), hf⟩)
    · rintro h' ⟨g'', q1, q2, q3, q4⟩ w rfl
      rw [nI_add]
      exact ⟨⟨j + 1, g'', rfl, by omega, q1, q2, q3, q4⟩, by rw [nt_nI (by omega), nt_nI (by omega)]; omega⟩
  refine hp_lp1h_ind (fun x h => ∃ j g', x = nI j ∧ j ≤ nt (p 0 4) ∧ FX h2 h ∧ AB p g' (st + 1) h ∧ gN G0 ≤ gN g' ∧ List.foldl (pr st) (List.foldl (pr st) g' (fl (rev p d) j (nt (p 0 4) - j))) (fl (lev p d) 0 (nt (p 0 11) - 0)) = FIN) (fun x h => 3 - nt x) ?_ ⟨0, G0, rfl, by omega, FX.rf, a2, Nat.le_refl _, hF⟩
  rintro x h ⟨j, g', rfl, hj, fx, ab, gle, hf⟩
  have n4' := gN_le ab.1
  have e12 : h 12 1 = nI (nt (p 0 4)) := by rw [fx 12 (by decide) (by decide) (by decide) (by decide), eq2.2.1.2.1]; exact vr.1.1
  rw [e12, nI_leI (by omega) (by omega)]
  refine ⟨fun c1 => losses g' h fx ab gle (by rw [fl_0 (by omega)] at hf; exact hf), fun c1 => ?_⟩
  have jr : j < nt (p 0 4) := by omega
  have m4 := (vr.2.2.1 j jr).1
  have m42 := m4.2
  rw [fl_s jr, List.foldl_append] at hf
  refine hp_lp1h_ind (fun x h => ∃ i g', x = nI i ∧ i ≤ nt (p 4 j) ∧ FX h2 h ∧ AB p g' (st + 1) h ∧ gN G0 ≤ gN g' ∧ List.foldl (pr st) (List.foldl (pr st) (List.foldl (pr st) g' (fl (mev p d j) i (nt (p 4 j) - i))) (fl (rev p d) (j + 1) (nt (p 0 4) - (j + 1)))) (fl (lev p d) 0 (nt (p 0 11) - 0)) = FIN) (fun x h => 3 - nt x) ?_ ⟨0, g', rfl, by omega, fx, ab, gle, hf⟩
  rintro x h ⟨i, g', rfl, hi, fx, ab, gle, hf⟩
  have n4' := gN_le ab.1
  refine ⟨nu_in (by omega) (by decide), ?_⟩
  have e13 : h 13 j = nI (nt (p 4 j)) := by rw [fx 13 (by decide) (by decide) (by decide) (by decide), eq2.1.2.2.2.1]; exact m4.1
  rw [nI_clamp (show j < 2 ^ 31 by omega), e13, nI_leI (by omega) (by omega)]
  refine ⟨List.foldl (pr st) (List.foldl (pr st) g' (fl (rev p d) (j + 1) (nt (p 0 4) - (j + 1)))) (fl (lev p d) 0 (nt (p 0 11) - 0)) = FIN, ⟨fun c2 => ?_, fun c2 => ⟨fun c3 => ?_, fun c3 => ?_⟩⟩, fun hf' => ?_⟩
  · rw [fl_0 (by omega)] at hf; exact hf
  · have im : i < nt (p 4 j) := by omega
    rw [fl_s im, List.foldl_append] at hf
    have eqh : EQ h p := EQ.fs (fun k hk => fx k (by omega) (by omega) (by omega) (by omega)) eq2
    refine s_goMember v eqh (us2.fs (fx 21 (by decide) (by decide) (by decide) (by decide))) ab (by omega) (by omega) hd (fun i hi => by rw [fx 46 (by decide) (by decide) (by decide) (by decide)]; exact r2 i hi) jr im (fun h25 f25 a25 => ?_)
    rintro w rfl
    rw [nI_add]
    exact ⟨⟨i + 1, _, rfl, by omega, fx.tr f25, a25, Nat.le_trans gle (fold_le _ n4'), hf⟩, by rw [nt_nI (by omega), nt_nI (by omega)]; omega⟩
  · rw [pr_sp (l := fl (mev p d j) i (nt (p 4 j) - i)) (by rw [← ab.2.2.1]; exact c3)] at hf; exact hf
  · rintro w rfl
    rw [nI_add]
    exact ⟨⟨j + 1, g', rfl, by omega, fx, ab, gle, hf'⟩, by rw [nt_nI (by omega), nt_nI (by omega)]; omega⟩
