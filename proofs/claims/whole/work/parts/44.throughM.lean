/-! ===== the reference goes through a whole state ===== -/
theorem pr_d {s t : Nat} {g : hp_H} {x : Int32 × Int32 × Int32 × Option (Nat → Nat)} (h : gN g ≤ 400) (ht : t < gN g) : dg (pr s g x) t = dg g t := by
  unfold pr
  by_cases c : g 0 34 = 0
  · rw [cif_t c]
    obtain ⟨r, m, u, o⟩ := x
    cases o with
    | none =>
      show dg (flt g s r m u) t = _
      unfold flt
      by_cases z : g 0 46 = 0
      · rw [cif_t z]; funext k; unfold dg; simp [hp_at]
      · rw [cif_f z]
    | some e =>
      show dg (mvg g s r m u e) t = _
      unfold mvg
      by_cases c1 : gK g = 6000
      · rw [cif_t c1]; funext k; unfold dg; simp [hp_at]
      rw [cif_f c1]
      by_cases c2 : ∃ i, gE g e i
      · rw [cif_t c2, gM_dg]
      rw [cif_f c2]
      by_cases c3 : gN g = 400
      · rw [cif_t c3]; funext k; unfold dg; simp [hp_at]
      · rw [cif_f c3, gM_dg, gS_old ht]
  · rw [cif_f c]
theorem fold_d {s t : Nat} : ∀ (l : List (Int32 × Int32 × Int32 × Option (Nat → Nat))) (g : hp_H), gN g ≤ 400 → t < gN g → dg (List.foldl (pr s) g l) t = dg g t := by
  intro l
  induction l with
  | nil => intro g _ _; rfl
  | cons x l ih => intro g h ht; rw [List.foldl_cons, ih _ (pr_4 h) (Nat.lt_of_lt_of_le ht (pr_N h)), pr_d h ht]
theorem AM_B {p g m m' : hp_H} {q s : Nat} (a : AM p g q m) (hq : s ≤ q) (e : m' = hp_up m 31 s (m 0 40)) : AM p (gB g s) (s + 1) m' := by
  obtain ⟨w, a1, a2, a3, a4, a5, a6, a7, a8⟩ := a
  have o : ∀ k, k ≠ 31 → m' k = m k := by intro k h1; rw [e]; simp [hp_at, h1]
  unfold AM
  rw [gB_N, gB_K, gB_d, gB_0, gB_0, gB_0, gB_0, gB_0, gB_0, gB_0, gB_k (show 28 ≠ 31 by decide), gB_k (show 29 ≠ 31 by decide), gB_k (show 30 ≠ 31 by decide), gB_k (show 32 ≠ 31 by decide), gB_k (show 33 ≠ 31 by decide), gB_k (show 34 ≠ 31 by decide), gB_k (show 35 ≠ 31 by decide), o 0 (by decide), o 28 (by decide), o 29 (by decide), o 30 (by decide), o 32 (by decide), o 33 (by decide), o 34 (by decide), o 35 (by decide)]
  refine ⟨GW_B w, a1, a2, a3, a4, fun t ht => (a5 t ht).fs (o 27 (by decide)), a6, a7, fun i hi => ?_⟩
  rw [e]
  unfold gB
  simp only [hp_at, if_true, upd]
  by_cases z : i = s
  · rw [if_pos z, if_pos z]; exact a2
  · rw [if_neg z, if_neg z]; exact a8 i (by omega)
set_option maxHeartbeats 2000000 in
theorem m_goThrough {p g m : hp_H} {q st : Nat} {Q : Int32 → hp_H → Prop} (v : VP p) (pv : PV p m) (a : AM p g q m) (sp : g 0 34 = 0) (hst : st < gN g) (hq : st ≤ q)
    (hQ : ∀ y m', FM m m' → AM p (List.foldl (pr st) (gB g st) (evs p (dg g st))) (st + 1) m' → ((List.foldl (pr st) (gB g st) (evs p (dg g st)) 0 34 = 0 ∧ y = nI 1) ∨ (¬ List.foldl (pr st) (gB g st) (evs p (dg g st)) 0 34 = 0 ∧ y = nI 0)) → Q y m') : q_X12_goThrough m (nI st) Q := by
  have v' := v
  obtain ⟨vs', vr, vc, vx, vt, v30⟩ := v'
  have n4 := gN_le a.1
  have hd := (a.1.2.2.2.2.2.1 st hst).2
  generalize hdd : dg g st = d at hd hQ
  have R3 := vr.1.2
  have C3 := vc.1.2
  have S24 := vt.1.2
  unfold q_X12_goThrough
  refine ⟨nu_in (by omega) (by decide), ?_⟩
  intro h1 e1
  rw [nI_clamp (show st < 2 ^ 31 by omega)] at e1
  have a1 := AM_B a hq e1
  have fm1 : FM m h1 := FM.one (x := 31) (fun k hk => by rw [e1, hp_at, if_neg hk]) (by decide) (by decide)
  have sp0 : gB g st 0 34 = 0 := by rw [gB_0]; exact sp
  have d0' : dg (gB g st) st = d := by rw [gB_d]; exact hdd
  have gN0 : gN (gB g st) = gN g := gB_N
  generalize gB g st = G0 at a1 hQ sp0 d0' gN0
  generalize hF : List.foldl (pr st) G0 (evs p d) = FIN at hQ
  unfold evs at hF
  rw [List.foldl_append] at hF
  refine hp_lp1h_ind (fun x h => ∃ j g', x = nI j ∧ j ≤ nt (p 0 4) ∧ FM m h ∧ AM p g' (st + 1) h ∧ g' 0 34 = 0 ∧ gN g ≤ gN g' ∧ dg g' st = d ∧ List.foldl (pr st) (List.foldl (pr st) g' (fl (rev p d) j (nt (p 0 4) - j))) (fl (lev p d) 0 (nt (p 0 11) - 0)) = FIN) (fun x h => 3 - nt x) ?_ ⟨0, G0, rfl, by omega, fm1, a1, sp0, by omega, d0', hF⟩
  rintro x h ⟨j, g', rfl, hj, fm, ab, spg, gle, hdg, hf⟩
  have n4' := gN_le ab.1
  have pvh : PV p h := fm.pv pv
  have e4 : h 0 4 = nI (nt (p 0 4)) := by rw [pvh.2.2.1]; exact vr.1.1
  rw [e4, nI_leI (by omega) (by omega)]
  refine ⟨fun c1 => ?_, fun c1 => ?_⟩
  · rw [fl_0 (show nt (p 0 4) ≤ j by omega), List.foldl_nil] at hf
    refine hp_lp1h_ind (fun x h => ∃ c g', x = nI c ∧ c ≤ nt (p 0 11) ∧ FM m h ∧ AM p g' (st + 1) h ∧ g' 0 34 = 0 ∧ gN g ≤ gN g' ∧ dg g' st = d ∧ List.foldl (pr st) g' (fl (lev p d) c (nt (p 0 11) - c)) = FIN) (fun x h => 3 - nt x) ?_ ⟨0, g', rfl, by omega, fm, ab, spg, gle, hdg, hf⟩
    clear hf hdg gle spg ab fm pvh n4' e4
    clear g' h
    rintro x h ⟨c, g', rfl, hc, fm, ab, spg, gle, hdg, hf⟩
    have n4' := gN_le ab.1
    have pvh : PV p h := fm.pv pv
    have e11 : h 0 11 = nI (nt (p 0 11)) := by rw [pvh.2.2.2.1]; exact vc.1.1
    rw [e11, nI_leI (by omega) (by omega)]
    refine ⟨fun c2 => ?_, fun c2 => ?_⟩
    · rw [fl_0 (show nt (p 0 11) ≤ c by omega), List.foldl_nil] at hf
      subst hf
      exact hQ _ h fm ab (Or.inl ⟨spg, rfl⟩)
    have cc : c < nt (p 0 11) := by omega
    rw [fl_s cc, List.foldl_append] at hf
    have T3 := (hd.2.1 c (by omega)).1
    refine hp_lp1h_ind (fun x h => ∃ i g', x = nI i ∧ i ≤ d (42 + 4 * c) ∧ FM m h ∧ AM p g' (st + 1) h ∧ g' 0 34 = 0 ∧ gN g ≤ gN g' ∧ dg g' st = d ∧ List.foldl (pr st) (List.foldl (pr st) g' (cif (p 12 c = 0) [] (fl (le1 d c) i (d (42 + 4 * c) - i)))) (fl (lev p d) (c + 1) (nt (p 0 11) - (c + 1))) = FIN) (fun x h => 3 - nt x) ?_ ⟨0, g', rfl, by omega, fm, ab, spg, gle, hdg, hf⟩
    clear hf hdg gle spg ab fm pvh n4' e11
    clear g' h
    rintro x h ⟨i, g', rfl, hi, fm, ab, spg, gle, hdg, hf⟩
    have n4' := gN_le ab.1
    have pvh : PV p h := fm.pv pv
    have rwh : RW h st d := by have := ab.2.2.2.2.2.1 st (by omega); rw [hdg] at this; exact this
    unfold q_X12_channelAt
    rw [cAt]
    refine m_cell (by omega) rwh (by omega) ?_
    rw [nI_leI (by omega) (by omega), nI_clamp (show c < 2 ^ 31 by omega), pvh.1 12 (by decide) (by decide)]
    refine ⟨List.foldl (pr st) g' (fl (lev p d) (c + 1) (nt (p 0 11) - (c + 1))) = FIN, ⟨fun z => ?_, fun z => ⟨nu_in (by omega) (by decide), fun z2 => ?_, fun z2 => ?_⟩⟩, fun hf' => ?_⟩
    · have : cif (p 12 c = 0) [] (fl (le1 d c) i (d (42 + 4 * c) - i)) = [] := by
        by_cases y : p 12 c = 0
        · rw [cif_t y]
        · rw [cif_f y, fl_0 (by omega)]
      rw [this, List.foldl_nil] at hf; exact hf
    · rw [cif_t z2, List.foldl_nil] at hf; exact hf
    · have il : i < d (42 + 4 * c) := by omega
      rw [cif_f z2, fl_s il, List.foldl_append] at hf
      refine m_isFirst hd.1 (by omega) rwh (by omega) (by omega) (fun w => ?_) (fun w => ?_)
      · have l1 : le1 d c i = [(-1, -1, -1, some (rw_tk d c i))] := by unfold le1; rw [cif_t w]
        rw [l1, List.foldl_cons, List.foldl_nil, pr_m spg] at hf
        refine hp_jn0h_i (br1 (m_take (by omega) rwh (fun h22 f22 ne22 => m_letterGoes hd.1 hd.2.1 ne22 (by omega) il (fun h23 f23 ne23 => ?_))))
        have fm23 : FM h h23 := (FM.one f22 (by decide) (by decide)).tr (FM.one f23 (by decide) (by decide))
        have DGl := DG_l v hd (show c < 3 by omega) il
        refine m_comes v (fm23.pv pvh) (ab.fs (by rw [f23 0 (by decide), f22 0 (by decide)]) (fun k h1 h2 => by rw [f23 k (by omega), f22 k (by omega)])) spg (by omega) (by omega) (tk_9 hd.1) ne23 DGl ⟨fun _ => rfl, fun y => orf_id (fun r hr => DGl.2.2 y r hr)⟩ (fun y h25 f25 o25 a25 hy => ?_)
        rcases hy with ⟨y1, rfl⟩ | ⟨y1, rfl⟩
        · refine br1 ?_
          rintro w' rfl
          rw [nI_add]
          have gl2 : gN g' ≤ gN (pr st g' (-1, -1, -1, some (rw_tk d c i))) := pr_N n4'
          have dg2 : dg (pr st g' (-1, -1, -1, some (rw_tk d c i))) st = dg g' st := pr_d n4' (by omega)
          rw [pr_m spg] at gl2 dg2
          exact ⟨⟨i + 1, _, rfl, by omega, fm.tr (fm23.tr f25), a25, y1, by omega, by rw [dg2]; exact hdg, by rw [cif_f z2]; exact hf⟩, by rw [nt_nI (by omega), nt_nI (by omega)]; omega⟩
        · rw [pr_sp (l := fl (le1 d c) (i + 1) (d (42 + 4 * c) - (i + 1))) y1, pr_sp y1] at hf
          subst hf
          exact br00 (hQ _ h25 (fm.tr (fm23.tr f25)) a25 (Or.inr ⟨y1, rfl⟩))
      · have l1 : le1 d c i = [] := by unfold le1; rw [cif_f w]
        rw [l1, List.foldl_nil] at hf
        refine hp_jn0h_i (br00 ?_)
        rintro w' rfl
        rw [nI_add]
        exact ⟨⟨i + 1, g', rfl, by omega, fm, ab, spg, gle, hdg, by rw [cif_f z2]; exact hf⟩, by rw [nt_nI (by omega), nt_nI (by omega)]; omega⟩
    · rintro w rfl
      rw [nI_add]
      exact ⟨⟨c + 1, g', rfl, by omega, fm, ab, spg, gle, hdg, hf'⟩, by rw [nt_nI (by omega), nt_nI (by omega)]; omega⟩
  have jr : j < nt (p 0 4) := by omega
  have m4 := (vr.2.2.1 j jr).1
  have m42 := m4.2
  rw [fl_s jr, List.foldl_append] at hf
  refine hp_lp1h_ind (fun x h => ∃ i g', x = nI i ∧ i ≤ nt (p 4 j) ∧ FM m h ∧ AM p g' (st + 1) h ∧ g' 0 34 = 0 ∧ gN g ≤ gN g' ∧ dg g' st = d ∧ List.foldl (pr st) (List.foldl (pr st) (List.foldl (pr st) g' (fl (mev p d j) i (nt (p 4 j) - i))) (fl (rev p d) (j + 1) (nt (p 0 4) - (j + 1)))) (fl (lev p d) 0 (nt (p 0 11) - 0)) = FIN) (fun x h => 3 - nt x) ?_ ⟨0, g', rfl, by omega, fm, ab, spg, gle, hdg, hf⟩
  clear hf hdg gle spg ab fm pvh n4' e4
  clear g' h
  rintro x h ⟨i, g', rfl, hi, fm, ab, spg, gle, hdg, hf⟩
  have n4' := gN_le ab.1
  have pvh : PV p h := fm.pv pv
  have rwh : RW h st d := by have := ab.2.2.2.2.2.1 st (by omega); rw [hdg] at this; exact this
  have e4 : h 4 j = nI (nt (p 4 j)) := by rw [pvh.1 4 (by decide) (by decide)]; exact m4.1
  rw [nI_clamp (show j < 2 ^ 31 by omega), e4, nI_leI (by omega) (by omega)]
  refine ⟨nu_in (by omega) (by decide), fun c2 => ?_, fun c2 => ?_⟩
  · rintro w rfl
    rw [nI_add]
    rw [fl_0 (show nt (p 4 j) ≤ i by omega), List.foldl_nil] at hf
    exact ⟨⟨j + 1, g', rfl, by omega, fm, ab, spg, gle, hdg, hf⟩, by rw [nt_nI (by omega), nt_nI (by omega)]; omega⟩
  have im : i < nt (p 4 j) := by omega
  rw [fl_s im, List.foldl_append] at hf
  refine m_reckon v pvh hd.1 (by omega) rwh (Or.inr ⟨j, i, by omega, by omega, rfl, rfl⟩) (fun h34 f34 v34 => ?_)
  have fm34 : FM m h34 := fm.tr (FM.one f34 (by decide) (by decide))
  have a34 : AM p g' (st + 1) h34 := ab.fs (f34 0 (by decide)) (fun k h1 h2 => f34 k (by omega))
  generalize eT : tb p d (nI j) (nI i) (nt (p 0 15)) = T
  have v34' : ∀ e, e < nt (p 0 15) → h34 37 e = T e := fun e he => by rw [v34 e he, ← eT, tb_v he]
  have hmv : mev p d j i = fl (sev p d T j i) 0 (nt (p 0 21) - 0) := by unfold mev; rw [eT]
  rw [hmv] at hf
  refine hp_lp1h_ind (fun x h => ∃ s g', x = nI s ∧ s ≤ nt (p 0 21) ∧ FM m h ∧ (∀ e, e < nt (p 0 15) → h 37 e = T e) ∧ AM p g' (st + 1) h ∧ g' 0 34 = 0 ∧ gN g ≤ gN g' ∧ dg g' st = d ∧ List.foldl (pr st) (List.foldl (pr st) (List.foldl (pr st) (List.foldl (pr st) g' (fl (sev p d T j i) s (nt (p 0 21) - s))) (fl (mev p d j) (i + 1) (nt (p 4 j) - (i + 1)))) (fl (rev p d) (j + 1) (nt (p 0 4) - (j + 1)))) (fl (lev p d) 0 (nt (p 0 11) - 0)) = FIN) (fun x h => 24 - nt x) ?_ ⟨0, g', rfl, by omega, fm34, v34', a34, spg, gle, hdg, hf⟩
  clear hf hdg gle spg ab fm pvh n4' e4 rwh f34 v34 fm34 a34 v34' hmv
  clear g' h h34
  rintro x h ⟨s, g', rfl, hs, fm, hv, ab, spg, gle, hdg, hf⟩
  have n4' := gN_le ab.1
  have pvh : PV p h := fm.pv pv
  have rwh : RW h st d := by have := ab.2.2.2.2.2.1 st (by omega); rw [hdg] at this; exact this
  have e21 : h 0 21 = nI (nt (p 0 21)) := by rw [pvh.2.2.2.2.2.1]; exact vt.1.1
  rw [e21, nI_leI (by omega) (by omega)]
  refine ⟨fun c3 => ?_, fun c3 => ⟨nu_in (by omega) (by decide), ?_⟩⟩
  · rintro w rfl
    rw [nI_add]
    rw [fl_0 (show nt (p 0 21) ≤ s by omega), List.foldl_nil] at hf
    exact ⟨⟨i + 1, g', rfl, by omega, fm, ab, spg, gle, hdg, hf⟩, by rw [nt_nI (by omega), nt_nI (by omega)]; omega⟩
  have sl : s < nt (p 0 21) := by omega
  rw [fl_s sl, List.foldl_append] at hf
  have v18 := (vt.2.2.2 s sl).1
  have v182 := v18.2
  have e18 : h 18 s = nI (nt (p 18 s)) := by rw [pvh.1 18 (by decide) (by decide)]; exact v18.1
  rw [nI_clamp (show s < 2 ^ 31 by omega), e18, nI_eq (by omega) (by omega)]
  refine ⟨fun h' => ∃ g'', FM m h' ∧ (∀ e, e < nt (p 0 15) → h' 37 e = T e) ∧ AM p g'' (st + 1) h' ∧ g'' 0 34 = 0 ∧ gN g ≤ gN g'' ∧ dg g'' st = d ∧ List.foldl (pr st) (List.foldl (pr st) (List.foldl (pr st) (List.foldl (pr st) g'' (fl (sev p d T j i) (s + 1) (nt (p 0 21) - (s + 1)))) (fl (mev p d j) (i + 1) (nt (p 4 j) - (i + 1)))) (fl (rev p d) (j + 1) (nt (p 0 4) - (j + 1)))) (fl (lev p d) 0 (nt (p 0 11) - 0)) = FIN, ⟨fun z => ?_, fun z => ?_⟩, ?_⟩
  · refine m_can (t := T) v pvh hd (by omega) rwh sl z im hv (fun w => br1 ?_) (fun w => br00 ?_)
    · have sv : sev p d T j i s = (wl p d s 27 (fun _ => 0)).map (wev p d T j i s) := by unfold sev; rw [cif_t ⟨z, w⟩]
      rw [sv] at hf
      refine m_goWays (t := T) v pvh ab spg (by omega) (by omega) hdg hd sl z im hv w.2.2 (fun y h46 f46 k46 a46 hy => ?_)
      have gl2 := fold_le (s := st) ((wl p d s 27 (fun _ => 0)).map (wev p d T j i s)) n4'
      have dg2 := fold_d (s := st) (t := st) ((wl p d s 27 (fun _ => 0)).map (wev p d T j i s)) g' n4' (by omega)
      rcases hy with ⟨y1, rfl⟩ | ⟨y1, rfl⟩
      · exact br1 ⟨_, fm.tr f46, fun e he => by rw [k46]; exact hv e he, a46, y1, by omega, by rw [dg2]; exact hdg, hf⟩
      · rw [pr_sp (l := fl (sev p d T j i) (s + 1) (nt (p 0 21) - (s + 1))) y1, pr_sp (l := fl (mev p d j) (i + 1) (nt (p 4 j) - (i + 1))) y1, pr_sp (l := fl (rev p d) (j + 1) (nt (p 0 4) - (j + 1))) y1, pr_sp y1] at hf
        subst hf
        exact br00 (hQ _ h46 (fm.tr f46) a46 (Or.inr ⟨y1, rfl⟩))
    · have sv : sev p d T j i s = [] := by unfold sev; rw [cif_f (fun y => w y.2)]
      rw [sv, List.foldl_nil] at hf
      exact ⟨g', fm, hv, ab, spg, gle, hdg, hf⟩
  · have sv : sev p d T j i s = [] := by unfold sev; rw [cif_f (fun y => z y.1)]
    rw [sv, List.foldl_nil] at hf
    exact ⟨g', fm, hv, ab, spg, gle, hdg, hf⟩
  · rintro h' ⟨g'', q1, q2, q3, q4, q5, q6, q7⟩ w rfl
    rw [nI_add]
    exact ⟨⟨s + 1, g'', rfl, by omega, q1, q2, q3, q4, q5, q6, q7⟩, by rw [nt_nI (by omega), nt_nI (by omega)]; omega⟩
