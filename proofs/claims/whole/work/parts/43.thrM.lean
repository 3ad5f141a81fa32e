theorem m_fault {p g m : hp_H} {q s : Nat} {r x t : Int32} {Q : hp_H → Prop} (a : AM p g q m) (hQ : ∀ m', FM m m' → (∀ k, 1 ≤ k → m' k = m k) → AM p (flt g s r x t) q m' → Q m') : q_X12_fault m (nI s) r x t Q := by
  have a' := a
  obtain ⟨w, a1, a2, a3, a4, a5, a6, a7, a8⟩ := a
  unfold q_X12_fault
  rw [a3]
  by_cases f : g 0 46 = 0
  · refine ⟨fun _ => ?_, fun z => absurd f z⟩
    rintro h2 rfl h3 rfl h4 rfl h5 rfl
    intro h6 e6
    have o : ∀ k, k ≠ 0 → h6 k = m k := by intro k h1; rw [e6]; simp [hp_at, h1]
    have o0 : ∀ j, j < 46 ∨ 50 < j → h6 0 j = m 0 j := by intro j hj; rw [e6]; simp [hp_at, upd, show j ≠ 46 by omega, show j ≠ 47 by omega, show j ≠ 48 by omega, show j ≠ 49 by omega, show j ≠ 50 by omega]
    refine hQ h6 ⟨fun k h1 _ => o k (by omega), fun j _ _ h3 => o0 j h3⟩ (fun k h1 => o k (by omega)) ?_
    unfold flt
    rw [cif_t f]
    generalize eg : hp_up (hp_up (hp_up (hp_up (hp_up g 0 46 (nI 1)) 0 47 (nI s)) 0 48 r) 0 49 x) 0 50 t = g'
    have g0 : ∀ j, j < 46 → g' 0 j = g 0 j := by intro j hj; rw [← eg]; simp [hp_at, upd, show j ≠ 46 by omega, show j ≠ 47 by omega, show j ≠ 48 by omega, show j ≠ 49 by omega, show j ≠ 50 by omega]
    have gk : ∀ k, k ≠ 0 → g' k = g k := by intro k hk; rw [← eg]; simp [hp_at, hk]
    have gd : dg g' = dg g := by funext s k; unfold dg; rw [gk 27 (by decide)]
    have gn : gN g' = gN g := by unfold gN; rw [g0 35 (by decide)]
    have gkk : gK g' = gK g := by unfold gK; rw [g0 40 (by decide)]
    have v46 : g' 0 46 = nI 1 := by rw [← eg]; simp [hp_at, upd]
    unfold AM
    rw [gn, gkk, gd, g0 35 (by decide), g0 40 (by decide), v46, gk 28 (by decide), gk 29 (by decide), gk 30 (by decide), gk 31 (by decide), gk 32 (by decide), gk 33 (by decide), gk 34 (by decide), gk 35 (by decide), o 28 (by decide), o 29 (by decide), o 30 (by decide), o 31 (by decide), o 32 (by decide), o 33 (by decide), o 34 (by decide), o 35 (by decide), o0 35 (by decide), o0 40 (by decide)]
    refine ⟨GW_fr w (gk 27 (by decide)) (g0 35 (by decide)) (by rw [g0 40 (by decide)]; exact w.2.2.1) (by rw [g0 34 (by decide)]; exact w.2.2.2.1) (by rw [v46]; exact Or.inr rfl), a1, a2, by rw [e6]; simp [hp_at, upd], fun _ => ?_, fun s hs => (a5 s hs).fs (o 27 (by decide)), a6, a7, a8⟩
    rw [← eg, e6]
    simp [hp_at, upd]
  · refine ⟨fun z => absurd z f, fun _ => hQ m FM.rf (fun k _ => rfl) ?_⟩
    unfold flt
    rw [cif_f f]
    exact a'
theorem flt_sp {g : hp_H} {s : Nat} {r x t : Int32} : flt g s r x t 0 34 = g 0 34 := by
  unfold flt
  by_cases f : g 0 46 = 0
  · rw [cif_t f]; simp [hp_at, upd]
  · rw [cif_f f]
theorem alk_or {p : hp_H} {d e : Nat → Nat} {r i0 s j : Nat} (v : VP p) (hg : DG p d) (hs : s < nt (p 0 21)) (hr : nt (p 18 s) = r) (hm : i0 < nt (p 4 r)) (h : DA p d r i0 s j e) :
    (p 0 30 = 0 → alk p (va_up e (6 + 4 * (3 * r + i0)) (nt (p 20 s))) r = va_up e (6 + 4 * (3 * r + i0)) (nt (p 20 s))) ∧ (¬ p 0 30 = 0 → orf p (va_up e (6 + 4 * (3 * r + i0)) (nt (p 20 s))) (nt (p 0 4)) = alk p (va_up e (6 + 4 * (3 * r + i0)) (nt (p 20 s))) r) := by
  have v' := v
  obtain ⟨vs, vr, vc, vx, vt, v30⟩ := v'
  have v2 := (vt.2.2.2 s hs).2.1
  have R3 := vr.1.2
  have rr : r < nt (p 0 4) := by omega
  refine ⟨fun z => by unfold alk; rw [cif_t z], fun z => ?_⟩
  unfold alk
  rw [cif_f z]
  refine orf_one R3 (fun x hx => (vr.2.2.1 x hx).1.2) rr (fun x hx xr y hy => ?_)
  have y3 := (vr.2.2.1 x hx).1.2
  have m3 := (vr.2.2.1 r rr).1.2
  have w : ∀ q, q < 3 → rw_w (va_up e (6 + 4 * (3 * r + i0)) (nt (p 20 s))) (1 + (3 * x + q)) = rw_w d (1 + (3 * x + q)) := by
    intro q hq
    refine ww_cg (by omega) (fun k k1 k2 => ?_)
    rw [va_n _ _ (by omega)]
    exact h.2.2.2.2 k (by omega) (by omega) (by omega)
  have := hg.2.2 z x hx y hy
  rw [show 2 + (3 * x + y) = 1 + (3 * x + (y + 1)) by omega] at this ⊢
  rw [w y (by omega), w (y + 1) (by omega)]
  exact this
theorem fold_N' {p g m : hp_H} {q : Nat} (a : AM p g q m) : gN g ≤ 400 := gN_le a.1
set_option maxHeartbeats 2000000 in
theorem m_goWays {p g m : hp_H} {q st i0 s r : Nat} {d : Nat → Nat} {t : Nat → Int32} {Q : Int32 → hp_H → Prop} (v : VP p) (pv : PV p m) (a : AM p g q m) (sp : g 0 34 = 0) (hst : st < gN g) (hq : st < q) (hdg : dg g st = d) (hd : DG p d) (hs : s < nt (p 0 21)) (hr : nt (p 18 s) = r) (hm : i0 < nt (p 4 r)) (hv : ∀ e, e < nt (p 0 15) → m 37 e = t e) (hc : ∀ i, i < nt (p 22 s) → cnA p d s i)
    (hQ : ∀ y m', FM m m' → m' 37 = m 37 → AM p (List.foldl (pr st) g ((wl p d s 27 (fun _ => 0)).map (wev p d t r i0 s))) q m' → ((List.foldl (pr st) g ((wl p d s 27 (fun _ => 0)).map (wev p d t r i0 s)) 0 34 = 0 ∧ y = nI 1) ∨ (¬ List.foldl (pr st) g ((wl p d s 27 (fun _ => 0)).map (wev p d t r i0 s)) 0 34 = 0 ∧ y = nI 0)) → Q y m') : q_X12_goWays m (nI st) (nI i0) (nI s) Q := by
  have v' := v
  obtain ⟨vs', vr, vc, vx, vt, v30⟩ := v'
  have s24 : s < 24 := by have := vt.1.2; omega
  have i24 : vp_in (nI s) 24 := nu_in s24 (by decide)
  have vt1 := vt.2.2.2 s hs
  obtain ⟨v1, v2, v3, v4, v5, v6, v7⟩ := vt1
  have n4c := (vt.2.1 s s24).2
  have n4 := gN_le a.1
  generalize hF : List.foldl (pr st) g ((wl p d s 27 (fun _ => 0)).map (wev p d t r i0 s)) = FIN at hQ
  unfold q_X12_goWays
  refine hp_lp1h_ind (fun x h => ∃ j, x = nI j ∧ j ≤ 4 ∧ (∀ k, k ≠ 38 → h k = m k) ∧ ∀ i, i < j → h 38 i = nI 0) (fun x h => 4 - nt x) ?_ ⟨0, rfl, by omega, fun k _ => rfl, fun i hi => by omega⟩
  rintro x h ⟨j, rfl, hj, fr, h38⟩
  rw [nI_leI (by decide) (by omega), nI_clamp (show j < 2 ^ 31 by omega)]
  refine ⟨fun c1 => ?_, fun c1 => ⟨nu_in (by omega) (by decide), ?_⟩⟩
  case refine_2 =>
    rintro h' rfl w rfl
    rw [nI_add]
    refine ⟨⟨j + 1, rfl, by omega, fun k hk => by rw [hp_at, if_neg hk]; exact fr k hk, fun i hi => ?_⟩, by rw [nt_nI (by omega), nt_nI (by omega)]; omega⟩
    simp only [hp_at, if_true, upd]
    by_cases z : i = j
    · rw [if_pos z]
    · rw [if_neg z]; exact h38 i (by omega)
  -- the ways, by how many may be left
  have key : ∀ (f : Nat) (c : Nat → Nat) (g' h : hp_H), CV p d s c → 27 ≤ vm p s c + f → (∀ i, i < 4 → h 38 i = nI (c i)) → FM m h → h 37 = m 37 → AM p g' q h → g' 0 34 = 0 → gN g ≤ gN g' → dg g' st = d → List.foldl (pr st) g' ((wl p d s f c).map (wev p d t r i0 s)) = FIN → hp_lp1h (fun v6 h7 B5 =>
        (v6 = 0 →
          Q (nI 1) h7) ∧ (¬ v6 = 0 →
          q_X12_take h7 (nI st) (fun h9 =>
          q_X12_isDone h9 (nI st) (nI i0) (nI s) (fun r10 h11 =>
          hp_jn0h (fun K13 =>
            (r10 = 0 →
              vp_in (nI s) 24 ∧
              q_X12_fault h11 (nI st) (h11 18 (nI s).toNatClampNeg) (nI i0) (nI s) (fun h15 =>
              K13 h15)) ∧ (¬ r10 = 0 →
              vp_in (nI s) 24 ∧
              q_X12_comes h11 (nI st) (h11 18 (nI s).toNatClampNeg) (nI i0) (nI s) (fun r16 h17 =>
              (r16 = 0 →
                Q (nI 0) h17) ∧ (¬ r16 = 0 →
                K13 h17)))) (fun h14 =>
            q_X12_hasNextWay h14 (nI st) (nI s) (fun r19 h20 =>
            B5 r19 h20)))))) (nI 1) h := by
    intro f
    induction f with
    | zero => intro c g' h cv hvm; have := vm_lt (vt.2.2.2 s hs) cv; omega
    | succ f ih =>
      intro c g' h cv hvm hp fm f37 ab spg gle hdg' hfin
      have n4' := gN_le ab.1
      have pvh : PV p h := fm.pv pv
      have rwh : RW h st d := by have := ab.2.2.2.2.2.1 st (by omega); rw [hdg'] at this; exact this
      have wls : wl p d s (f + 1) c = c :: (match nxt p d s (nt (p 22 s)) c with
          | none => []
          | some c' => wl p d s f c') := rfl
      rw [wls, List.map_cons, List.foldl_cons] at hfin
      refine hp_lp1h_f ⟨fun z => absurd z (by decide), fun _ => ?_⟩
      refine m_take (by omega) rwh (fun h9 f9 ne9 => ?_)
      have pv9 : PV p h9 := (FM.one f9 (by decide) (by decide)).pv pvh
      -- the next ways
      have tail : ∀ h14 : hp_H, FM m h14 → h14 37 = m 37 → h14 38 = h 38 → AM p (pr st g' (wev p d t r i0 s c)) q h14 → (pr st g' (wev p d t r i0 s c)) 0 34 = 0 → dg (pr st g' (wev p d t r i0 s c)) st = d → q_X12_hasNextWay h14 (nI st) (nI s) (fun r19 h20 => hp_lp1h (fun v6 h7 B5 =>
        (v6 = 0 →
          Q (nI 1) h7) ∧ (¬ v6 = 0 →
          q_X12_take h7 (nI st) (fun h9 =>
          q_X12_isDone h9 (nI st) (nI i0) (nI s) (fun r10 h11 =>
          hp_jn0h (fun K13 =>
            (r10 = 0 →
              vp_in (nI s) 24 ∧
              q_X12_fault h11 (nI st) (h11 18 (nI s).toNatClampNeg) (nI i0) (nI s) (fun h15 =>
              K13 h15)) ∧ (¬ r10 = 0 →
              vp_in (nI s) 24 ∧
              q_X12_comes h11 (nI st) (h11 18 (nI s).toNatClampNeg) (nI i0) (nI s) (fun r16 h17 =>
              (r16 = 0 →
                Q (nI 0) h17) ∧ (¬ r16 = 0 →
                K13 h17)))) (fun h14 =>
            q_X12_hasNextWay h14 (nI st) (nI s) (fun r19 h20 =>
            B5 r19 h20)))))) r19 h20) := by
        intro h14 f14 g37 g38 a14 s14 d14
        have gl : gN g ≤ gN (pr st g' (wev p d t r i0 s c)) := Nat.le_trans gle (pr_N n4')
        refine m_hasNextWay v (f14.pv pv) hd (by omega) (by have := a14.2.2.2.2.2.1 st (by omega); rw [d14] at this; exact this) hs cv (fun i hi => by rw [g38]; exact hp i hi) (fun c' m' n1 f1 p1 => ?_) (fun m' n1 f1 => ?_)
        · rw [n1] at hfin
          have up := vm_up (vt.2.2.2 s hs) n4c cv n1
          exact ih c' _ m' (CV_n cv hc n1) (by omega) p1 (f14.tr (FM.one f1 (by decide) (by decide))) (by rw [f1 37 (by decide)]; exact g37) (a14.fs (f1 0 (by decide)) (fun k h1 h2 => f1 k (by omega))) s14 gl d14 hfin
        · rw [n1] at hfin
          refine hp_lp1h_f ⟨fun _ => hQ _ m' (f14.tr (FM.one f1 (by decide) (by decide))) (by rw [f1 37 (by decide)]; exact g37) ?_ (Or.inl ⟨?_, rfl⟩), fun z => absurd rfl z⟩
          · have := a14.fs (f1 0 (by decide)) (fun k h1 h2 => f1 k (by omega))
            rw [← hfin]; exact this
          · rw [← hfin]; exact s14
      refine m_isDone (t := t) v pv9 hd (by omega) (rwh.fs (f9 27 (by decide))) ne9 hs hr hm (fun e he => by rw [f9 37 (by decide), f37]; exact hv e he) hc cv (fun i hi => by rw [f9 38 (by decide)]; exact hp i hi) (fun e h11 ed f11 ne11 => ?_) (fun h11 ed f11 => ?_)
      · have fmA : FM h h11 := (FM.one f9 (by decide) (by decide)).tr (FM.one f11 (by decide) (by decide))
        have e18 : h11 18 (nI s).toNatClampNeg = nI r := by rw [nI_clamp (show s < 2 ^ 31 by omega), f11 18 (by decide), pv9.1 18 (by decide) (by decide), v1.1, hr]
        have DAe := DA_i v hd hs hr hm hc cv _ e (Nat.le_refl _) ed
        have DGe := DG_w v hd hs hr hm DAe
        have ev : wev p d t r i0 s c = (nI r, nI i0, nI s, some (alk p (va_up e (6 + 4 * (3 * r + i0)) (nt (p 20 s))) r)) := by unfold wev; rw [ed]
        rw [e18]
        have a11 : AM p g' q h11 := ab.fs (by rw [f11 0 (by decide), f9 0 (by decide)]) (fun k h1 h2 => by rw [f11 k (by omega), f9 k (by omega)])
        refine hp_jn0h_i (br1 ⟨i24, m_comes v (fmA.pv pvh) a11 spg (by omega) hq (va_9 DAe.1 v4.2) ne11 DGe (alk_or v hd hs hr hm DAe) (fun y h17 f17 o17 a17 hy => ?_)⟩)
        have fm17 : FM m h17 := fm.tr (fmA.tr f17)
        have k37 : h17 37 = m 37 := by rw [o17 37 (by decide) (by decide), f11 37 (by decide), f9 37 (by decide), f37]
        rcases hy with ⟨y1, rfl⟩ | ⟨y1, rfl⟩
        · refine br1 (tail h17 fm17 k37 (by rw [o17 38 (by decide) (by decide), f11 38 (by decide), f9 38 (by decide)]) (by rw [ev, pr_m spg]; exact a17) (by rw [ev, pr_m spg]; exact y1) ?_)
          rw [ev, pr_m spg]
          unfold mvg
          by_cases c1 : gK g' = 6000
          · rw [mvg_full c1] at y1; exact absurd y1 (by simp [hp_at, upd]; decide)
          rw [cif_f c1]
          by_cases c2 : ∃ i, gE g' (alk p (va_up e (6 + 4 * (3 * r + i0)) (nt (p 20 s))) r) i
          · rw [cif_t c2, gM_dg]; exact hdg'
          rw [cif_f c2]
          by_cases c3 : gN g' = 400
          · rw [mvg_400 c1 c2 c3] at y1; exact absurd y1 (by simp [hp_at, upd]; decide)
          · rw [cif_f c3, gM_dg, gS_old (by omega)]; exact hdg'
        · refine br00 (hQ _ h17 fm17 k37 ?_ (Or.inr ⟨?_, rfl⟩))
          · rw [ev, pr_m spg, pr_sp y1] at hfin
            rw [← hfin]; exact a17
          · rw [ev, pr_m spg, pr_sp y1] at hfin
            rw [← hfin]; exact y1
      · have fmA : FM h h11 := (FM.one f9 (by decide) (by decide)).tr (FM.one f11 (by decide) (by decide))
        have e18 : h11 18 (nI s).toNatClampNeg = nI r := by rw [nI_clamp (show s < 2 ^ 31 by omega), f11 18 (by decide), pv9.1 18 (by decide) (by decide), v1.1, hr]
        have ev : wev p d t r i0 s c = (nI r, nI i0, nI s, none) := by unfold wev; rw [ed]
        rw [e18]
        have a11 : AM p g' q h11 := ab.fs (by rw [f11 0 (by decide), f9 0 (by decide)]) (fun k h1 h2 => by rw [f11 k (by omega), f9 k (by omega)])
        refine hp_jn0h_i (br00 ⟨i24, m_fault a11 (fun h15 f15 o15 a15 => tail h15 (fm.tr (fmA.tr f15)) (by rw [o15 37 (by decide), f11 37 (by decide), f9 37 (by decide), f37]) (by rw [o15 38 (by decide), f11 38 (by decide), f9 38 (by decide)]) (by rw [ev, pr_f spg]; exact a15) (by rw [ev, pr_f spg, flt_sp]; exact spg) ?_)⟩)
        rw [ev, pr_f spg]
        unfold flt
        by_cases z : g' 0 46 = 0
        · rw [cif_t z]; rw [← hdg']; funext k; unfold dg; simp [hp_at]
        · rw [cif_f z]; exact hdg'
  have fm0 : FM m h := FM.one fr (by decide) (by decide)
  exact key 27 (fun _ => 0) g h (CV_0 hc) (by omega) (fun i hi => h38 i (by omega)) fm0 (fr 37 (by decide)) (a.fs (fr 0 (by decide)) (fun k h1 h2 => fr k (by omega))) sp (Nat.le_refl _) hdg hF
