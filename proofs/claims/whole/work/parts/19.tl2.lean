/-! Timeline: insert, put, replace, firstDayWith -/
def tlIns (l : List (Int × Int)) (i : Nat) (q : Int × Int) : List (Int × Int) := l.take i ++ q :: l.drop i
theorem tlIns_len {l : List (Int × Int)} {i : Nat} {q : Int × Int} (h : i ≤ l.length) : (tlIns l i q).length = l.length + 1 := by simp [tlIns]; omega
theorem tlIns_lo {l : List (Int × Int)} {i j : Nat} {q : Int × Int} (hi : i ≤ l.length) (h : j < i) : (tlIns l i q)[j]? = l[j]? := by
  unfold tlIns
  rw [List.getElem?_append_left (by simp; omega), List.getElem?_take_of_lt h]
theorem tlIns_at {l : List (Int × Int)} {i : Nat} {q : Int × Int} (hi : i ≤ l.length) : (tlIns l i q)[i]? = some q := by
  unfold tlIns
  rw [List.getElem?_append_right (by simp; omega)]
  simp [Nat.min_eq_left hi]
theorem tlIns_hi {l : List (Int × Int)} {i j : Nat} {q : Int × Int} (hi : i ≤ l.length) (h : i < j) : (tlIns l i q)[j]? = l[j - 1]? := by
  unfold tlIns
  rw [List.getElem?_append_right (by simp; omega)]
  have e : j - (l.take i).length = (j - 1 - i) + 1 := by simp; omega
  rw [e, List.getElem?_cons_succ, List.getElem?_drop]
  congr 1; omega
/-- while the shift runs: below k as it was, above k one on -/
def tlSh (M0 M : QM) (s p cap : Nat) (l : List (Int × Int)) (k : Nat) : Prop :=
  q_qt M0 M ∧ q_fr (fun a => a = s ∨ a = p) M0 M ∧ (∀ j q, j < k → l[j]? = some q → q_fv M s j = qi q.1 ∧ q_fv M p j = qi q.2) ∧ (∀ j q, k ≤ j → l[j]? = some q → q_fv M s (j + 1) = qi q.1 ∧ q_fv M p (j + 1) = qi q.2) ∧ (∀ i, i < cap → (∃ z, q_fv M s i = qi z) ∧ ∃ z, q_fv M p i = qi z)
set_option maxHeartbeats 1000000 in
theorem tl_shift {C : QC} {M0 : QM} {t s p cap : Nat} {l : List (Int × Int)} {pl : Nat} {x1 x2 : Int} (hT : TL M0 t s p cap l) (hw : q_wf M0) (hlt : l.length < cap) {P : QP} (hP : ∀ M, tlSh M0 M s p cap l pl → Rr C mX9_insert (100, [some (qr t), some (qi pl), some (qi x1), some (qi x2), some (qi pl)], [], M) P) :
    ∀ n k : Nat, k = pl + n → k ≤ l.length → ∀ M, tlSh M0 M s p cap l k → Rr C mX9_insert (56, [some (qr t), some (qi pl), some (qi x1), some (qi x2), some (qi k)], [], M) P := by
  obtain ⟨kt, f0, f1, f2, ks', kp', hl, hc4, hc, hsp, he, hz⟩ := hT
  have ks : (q_kd M0 s).1 = 2 := by rw [ks']
  have ks2 : (q_kd M0 s).2 = cap := by rw [ks']
  have kp : (q_kd M0 p).1 = 2 := by rw [kp']
  have kp2 : (q_kd M0 p).2 = cap := by rw [kp']
  have ts := q_neK kt ks' (by simp)
  have tp := q_neK kt kp' (by simp)
  intro n
  induction n with
  | zero =>
    intro k hk hkl M hs
    have : k = pl := by omega
    subst this
    simp (disch := first | assumption | omega | (simp only [q_kd_wr, q_fv_wrE, q_top_wr, q_nc_wr, q_ns_wr, q_gs_wr, q_kd_al, q_fv_al, q_top_al, q_nc_al, q_ns_al, q_gs_al, q_kd_cp, q_fv_cpE, q_top_cp, q_nc_cp, q_ns_cp, q_gs_cp]; first | done | assumption | omega)) only [kX9_insert_56, kX9_insert_58, kX9_insert_59, q_cut_i, q_cut_r, q_cut_l, q_cut_n, if_pos, if_neg]
    exact hP M hs
  | succ n ih =>
    intro k hk hkl M hs
    obtain ⟨hq, hfr, h1, h2, h3⟩ := hs
    have kt1 : q_kd M t = (1, 9) := (hq.1 t).trans kt
    have ks1 : (q_kd M s).1 = 2 := by rw [hq.1]; exact ks
    have ks21 : (q_kd M s).2 = cap := by rw [hq.1]; exact ks2
    have kp1 : (q_kd M p).1 = 2 := by rw [hq.1]; exact kp
    have kp21 : (q_kd M p).2 = cap := by rw [hq.1]; exact kp2
    have hft : ∀ j, q_fv M t j = q_fv M0 t j := fun j => q_frv hfr hw kt (by simp) (by simp [ts, tp]) j
    have g0 : q_fv M t 0 = qr s := (hft 0).trans f0
    have g1 : q_fv M t 1 = qr p := (hft 1).trans f1
    have hkl' : k - 1 < l.length := by omega
    obtain ⟨w1, w2⟩ := h1 (k - 1) l[k - 1] (by omega) (List.getElem?_eq_getElem hkl')
    have e1 : ((k : Int) - 1).toNat = k - 1 := by omega
    have e2 : (k : Int) + (-1) = ((k - 1 : Nat) : Int) := by omega
    rw [kX9_insert_56]
    simp (disch := first | assumption | omega | (simp only [q_kd_wr, q_fv_wrE, q_top_wr, q_nc_wr, q_ns_wr, q_gs_wr, q_kd_al, q_fv_al, q_top_al, q_nc_al, q_ns_al, q_gs_al, q_kd_cp, q_fv_cpE, q_top_cp, q_nc_cp, q_ns_cp, q_gs_cp]; first | done | assumption | omega)) only [kX9_insert_58, kX9_insert_59, kX9_insert_62, kX9_insert_63, kX9_insert_66, kX9_insert_68, kX9_insert_69, kX9_insert_72, kX9_insert_74, kX9_insert_75, kX9_insert_76, kX9_insert_77, kX9_insert_78, kX9_insert_79, kX9_insert_82, kX9_insert_84, kX9_insert_85, kX9_insert_88, kX9_insert_90, kX9_insert_91, kX9_insert_92, kX9_insert_93, kX9_insert_94, kX9_insert_97, q_cut_i, q_cut_r, q_cut_l, q_cut_n, if_pos, if_neg, q_kd_wr, q_fv_wrE, q_top_wr, q_nc_wr, q_ns_wr, q_gs_wr, q_kd_al, q_fv_al, q_top_al, q_nc_al, q_ns_al, q_gs_al, q_kd_cp, q_fv_cpE, q_top_cp, q_nc_cp, q_ns_cp, q_gs_cp, g0, g1, e1, e2, w1, w2, q_toN, ts, ts.symm, tp, tp.symm, hsp, hsp.symm, false_and, and_false, if_false]
    refine ih (k - 1) (by omega) (by omega) _ ⟨hq.tr (q_qt.wr.tr q_qt.wr), hfr.tr ((q_fr.wr (Or.inl rfl)).tr (q_fr.wr (Or.inr rfl))), fun j q hj hjq => ?_, fun j q hj hjq => ?_, fun i hi => ?_⟩
    · obtain ⟨u1, u2⟩ := h1 j q (by omega) hjq
      simp only [q_fv_wrE, hsp, hsp.symm, false_and, if_false, true_and]
      rw [if_neg (by omega), if_neg (by omega)]
      exact ⟨u1, u2⟩
    · simp only [q_fv_wrE, hsp, hsp.symm, false_and, if_false, true_and]
      by_cases hjk : j + 1 = k
      · rw [if_pos hjk, if_pos hjk]
        have : j = k - 1 := by omega
        subst this
        rw [List.getElem?_eq_getElem hkl'] at hjq
        cases hjq
        exact ⟨rfl, rfl⟩
      · rw [if_neg hjk, if_neg hjk]
        exact h2 j q (by omega) hjq
    · obtain ⟨⟨z1, u1⟩, z2, u2⟩ := h3 i hi
      simp only [q_fv_wrE, hsp, hsp.symm, false_and, if_false, true_and, u1, u2]
      exact ⟨by split <;> exact ⟨_, rfl⟩, by split <;> exact ⟨_, rfl⟩⟩
theorem tl_room {C : QC} {M : QM} {t s p cap : Nat} {l : List (Int × Int)} {pl : Nat} {day par : Int} {y : Option CV} (hT : TL M t s p cap l) (hw : q_wf M) (hlt : l.length < cap) (hpl : pl ≤ l.length) (h1 : -100000 ≤ day ∧ day ≤ 100000) (h2 : -100000 ≤ par ∧ par ≤ 100000) {P : QP} (hP : ∀ M', TL M' t s p cap (tlIns l pl (day, par)) → q_fr (fun a => a = t ∨ a = s ∨ a = p) M M' → q_qt M M' → P none M') : Rr C mX9_insert (50, [some (qr t), some (qi pl), some (qi day), some (qi par), y], [], M) P := by
  have hT' := hT
  obtain ⟨kt, f0, f1, f2, ks', kp', hl, hc4, hc, hsp, he, hz⟩ := hT
  have ks : (q_kd M s).1 = 2 := by rw [ks']
  have ks2 : (q_kd M s).2 = cap := by rw [ks']
  have kp : (q_kd M p).1 = 2 := by rw [kp']
  have kp2 : (q_kd M p).2 = cap := by rw [kp']
  have ts := q_neK kt ks' (by simp)
  have tp := q_neK kt kp' (by simp)
  simp (disch := first | assumption | omega | (simp only [q_kd_wr, q_fv_wrE, q_top_wr, q_nc_wr, q_ns_wr, q_gs_wr, q_kd_al, q_fv_al, q_top_al, q_nc_al, q_ns_al, q_gs_al, q_kd_cp, q_fv_cpE, q_top_cp, q_nc_cp, q_ns_cp, q_gs_cp]; first | done | assumption | omega)) only [kX9_insert_50, kX9_insert_51, kX9_insert_54, q_cut_i, q_cut_r, q_cut_l, q_cut_n, if_pos, if_neg, f0, f1, f2]
  refine tl_shift hT' hw hlt (fun M1 hs => ?_) (l.length - pl) l.length (by omega) (Nat.le_refl _) M ⟨q_qt.rf, q_fr.rf, fun j q hj hjq => ?_, fun j q hj hjq => ?_, hz⟩
  · obtain ⟨hq, hfr, g1, g2, g3⟩ := hs
    have kt1 : q_kd M1 t = (1, 9) := (hq.1 t).trans kt
    have ks1 : (q_kd M1 s).1 = 2 := by rw [hq.1]; exact ks
    have ks21 : (q_kd M1 s).2 = cap := by rw [hq.1]; exact ks2
    have kp1 : (q_kd M1 p).1 = 2 := by rw [hq.1]; exact kp
    have kp21 : (q_kd M1 p).2 = cap := by rw [hq.1]; exact kp2
    have hft : ∀ j, q_fv M1 t j = q_fv M t j := fun j => q_frv hfr hw kt (by simp) (by simp [ts, tp]) j
    have v0 : q_fv M1 t 0 = qr s := (hft 0).trans f0
    have v1 : q_fv M1 t 1 = qr p := (hft 1).trans f1
    have v2 : q_fv M1 t 2 = qi l.length := (hft 2).trans f2
    simp (disch := first | assumption | omega | (simp only [q_kd_wr, q_fv_wrE, q_top_wr, q_nc_wr, q_ns_wr, q_gs_wr, q_kd_al, q_fv_al, q_top_al, q_nc_al, q_ns_al, q_gs_al, q_kd_cp, q_fv_cpE, q_top_cp, q_nc_cp, q_ns_cp, q_gs_cp]; first | done | assumption | omega)) only [kX9_insert_100, kX9_insert_101, kX9_insert_104, kX9_insert_105, kX9_insert_106, kX9_insert_107, kX9_insert_108, kX9_insert_111, kX9_insert_112, kX9_insert_113, kX9_insert_114, kX9_insert_115i, kX9_insert_115r, kX9_insert_116, kX9_insert_119, kX9_insert_120, kX9_insert_121, kX9_insert_124, q_cut_i, q_cut_r, q_cut_l, q_cut_n, if_pos, if_neg, q_kd_wr, q_fv_wrE, q_top_wr, q_nc_wr, q_ns_wr, q_gs_wr, q_kd_al, q_fv_al, q_top_al, q_nc_al, q_ns_al, q_gs_al, q_kd_cp, q_fv_cpE, q_top_cp, q_nc_cp, q_ns_cp, q_gs_cp, v0, v1, v2, q_toN, ts, ts.symm, tp, tp.symm, hsp, hsp.symm, false_and, and_false, if_false]
    refine hP _ ⟨kt1, ?_, ?_, ?_, (hq.1 s).trans ks', (hq.1 p).trans kp', by rw [tlIns_len hpl]; omega, hc4, hc, hsp, fun i hi => ?_, fun i hi => ?_⟩ ?_ (hq.tr ((q_qt.wr.tr q_qt.wr).tr q_qt.wr))
    · simp [q_fv_wrE, ts, tp, v0]
    · simp [q_fv_wrE, ts, tp, v1]
    · simp [q_fv_wrE, tlIns_len hpl]
    · have hi' : (tlIns l pl (day, par))[i]? = some (tlIns l pl (day, par))[i] := List.getElem?_eq_getElem hi
      rw [tlIns_len hpl] at hi
      generalize (tlIns l pl (day, par))[i]'(by rw [tlIns_len hpl]; exact hi) = q at hi' ⊢
      simp only [q_fv_wrE, ts.symm, tp.symm, hsp, hsp.symm, false_and, if_false, true_and]
      rcases Nat.lt_trichotomy i pl with h | h | h
      · rw [tlIns_lo hpl h] at hi'
        obtain ⟨u1, u2⟩ := g1 i q h hi'
        rw [if_neg (by omega), if_neg (by omega), u1, u2]
        have hil : i < l.length := by omega
        rw [List.getElem?_eq_getElem hil] at hi'
        cases hi'
        exact ⟨rfl, rfl, (he i hil).2.2⟩
      · subst h
        rw [tlIns_at hpl] at hi'
        cases hi'
        rw [if_pos rfl, if_pos rfl]
        exact ⟨rfl, rfl, h1.1, h1.2, h2.1, h2.2⟩
      · rw [tlIns_hi hpl h] at hi'
        obtain ⟨u1, u2⟩ := g2 (i - 1) q (by omega) hi'
        rw [show i - 1 + 1 = i by omega] at u1 u2
        rw [if_neg (by omega), if_neg (by omega), u1, u2]
        have hil : i - 1 < l.length := by omega
        rw [List.getElem?_eq_getElem hil] at hi'
        cases hi'
        exact ⟨rfl, rfl, (he (i - 1) hil).2.2⟩
    · obtain ⟨⟨z1, u1⟩, z2, u2⟩ := g3 i hi
      simp only [q_fv_wrE, ts.symm, tp.symm, hsp, hsp.symm, false_and, if_false, true_and, u1, u2]
      exact ⟨by split <;> exact ⟨_, rfl⟩, by split <;> exact ⟨_, rfl⟩⟩
    · refine (hfr.wk (fun _ _ h => Or.inr h)).tr (((q_fr.wr ?_).tr (q_fr.wr ?_)).tr (q_fr.wr ?_)) <;> simp
  · have hjl := (List.getElem?_eq_some_iff.mp hjq).1
    obtain ⟨u1, u2, -⟩ := he j hjl
    rw [List.getElem?_eq_getElem hjl] at hjq
    cases hjq
    exact ⟨u1, u2⟩
  · have hjl := (List.getElem?_eq_some_iff.mp hjq).1
    omega
set_option maxHeartbeats 1000000 in
theorem sX9_insert {d : Nat} {M : QM} {t s p cap : Nat} {l : List (Int × Int)} {pl : Nat} {day par : Int} (hT : TL M t s p cap l) (hw : q_wf M) (hl9 : l.length ≤ 2000) (hpl : pl ≤ l.length) (h1 : -100000 ≤ day ∧ day ≤ 100000) (h2 : -100000 ≤ par ∧ par ≤ 100000) {P : QP} (hP : ∀ M' s' p' cap', TL M' t s' p' cap' (tlIns l pl (day, par)) → q_fr (fun a => a = t ∨ a = s ∨ a = p) M M' → q_wf M' → q_gr M M' cap cap' → (s' = s ∨ q_top M ≤ s') → (p' = p ∨ q_top M ≤ p') → P none M') : q_T (d + 2) iX9_insert [qr t, qi pl, qi day, qi par] M P := by
  have hT' := hT
  obtain ⟨kt, f0, f1, f2, ks', kp', hl, hc4, hc, hsp, he, hz⟩ := hT
  have ks : (q_kd M s).1 = 2 := by rw [ks']
  have ks2 : (q_kd M s).2 = cap := by rw [ks']
  have kp : (q_kd M p).1 = 2 := by rw [kp']
  have kp2 : (q_kd M p).2 = cap := by rw [kp']
  have ts := q_neK kt ks' (by simp)
  have tp := q_neK kt kp' (by simp)
  rw [eX9_insert]
  by_cases hq : l.length < cap
  · simp (disch := first | assumption | omega | (simp only [q_kd_wr, q_fv_wrE, q_top_wr, q_nc_wr, q_ns_wr, q_gs_wr, q_kd_al, q_fv_al, q_top_al, q_nc_al, q_ns_al, q_gs_al, q_kd_cp, q_fv_cpE, q_top_cp, q_nc_cp, q_ns_cp, q_gs_cp]; first | done | assumption | omega)) only [kX9_insert_0, kX9_insert_1, kX9_insert_4, kX9_insert_5, kX9_insert_8, kX9_insert_9, q_cut_i, q_cut_r, q_cut_l, q_cut_n, if_pos, if_neg, f0, f1, f2, ks2]
    exact tl_room hT' hw hq hpl h1 h2 (fun M' a b c => hP M' s p cap a b (hw.qt c) (q_gr.rf c) (Or.inl rfl) (Or.inl rfl))
  · have hcap : l.length = cap := by omega
    have e : (2 * (l.length : Int) + 1) = ((2 * cap + 1 : Nat) : Int) := by omega
    simp (disch := first | assumption | omega | (simp only [q_kd_wr, q_fv_wrE, q_top_wr, q_nc_wr, q_ns_wr, q_gs_wr, q_kd_al, q_fv_al, q_top_al, q_nc_al, q_ns_al, q_gs_al, q_kd_cp, q_fv_cpE, q_top_cp, q_nc_cp, q_ns_cp, q_gs_cp]; first | done | assumption | omega)) only [kX9_insert_0, kX9_insert_1, kX9_insert_4, kX9_insert_5, kX9_insert_8, kX9_insert_9, kX9_insert_12, kX9_insert_13, kX9_insert_14, kX9_insert_17, kX9_insert_18, kX9_insert_19, kX9_insert_22, kX9_insert_23, kX9_insert_24, q_cut_i, q_cut_r, q_cut_l, q_cut_n, if_pos, if_neg, f0, f1, f2, ks2, e]
    obtain ⟨M1, hc1, c1, c2, c3, c4, c5, c6, c7⟩ := sJ7_copyOfI2 (d := d) (n := 2 * cap + 1) ks' hw (by omega) (by omega) (fun i hi => (hz i hi).1)
    refine kX9_insert_25 hc1 (Nat.le_of_ble_eq_true rfl) ?_
    have hw1 := c7 hw
    have kt1 := q_frk c1 hw kt (by simp)
    have kp1 := q_frk c1 hw kp' (by simp)
    have g1 : q_fv M1 t 1 = qr p := (q_frv c1 hw kt (by simp) not_false 1).trans f1
    have g2 : q_fv M1 t 2 = qi l.length := (q_frv c1 hw kt (by simp) not_false 2).trans f2
    have gp : ∀ i, q_fv M1 p i = q_fv M p i := fun i => q_frv c1 hw kp' (by simp) not_false i
    have tt1 : t ≠ q_top M := by have := hw.lt (a := t) (by rw [kt]; simp); omega
    have tp1 : p ≠ q_top M := by have := hw.lt (a := p) (by rw [kp']; simp); omega
    simp (disch := first | assumption | omega | (simp only [q_kd_wr, q_fv_wrE, q_top_wr, q_nc_wr, q_ns_wr, q_gs_wr, q_kd_al, q_fv_al, q_top_al, q_nc_al, q_ns_al, q_gs_al, q_kd_cp, q_fv_cpE, q_top_cp, q_nc_cp, q_ns_cp, q_gs_cp]; first | done | assumption | omega)) only [kX9_insert_28, kX9_insert_31, kX9_insert_32, kX9_insert_33, kX9_insert_36, kX9_insert_37, kX9_insert_38, kX9_insert_41, kX9_insert_42, kX9_insert_43, q_cut_i, q_cut_r, q_cut_l, q_cut_n, if_pos, if_neg, q_kd_wr, q_fv_wrE, q_top_wr, q_nc_wr, q_ns_wr, q_gs_wr, q_kd_al, q_fv_al, q_top_al, q_nc_al, q_ns_al, q_gs_al, q_kd_cp, q_fv_cpE, q_top_cp, q_nc_cp, q_ns_cp, q_gs_cp, g1, g2, and_true, Nat.reduceEqDiff, and_false, if_false, e]
    obtain ⟨M3, hc3, b1, b2, b3, b4, b5, b6, b7⟩ := sJ7_copyOfI2 (d := d) (M := q_wr M1 t 0 (qr (q_top M))) (n := 2 * cap + 1) (a := p) kp1 hw1.wr (by omega) (by omega) (fun i hi => by
      rw [q_fv_wrE, if_neg (fun q => tp q.1.symm), gp]; exact (hz i hi).2)
    refine kX9_insert_44 hc3 (Nat.le_of_ble_eq_true rfl) ?_
    have hw3 := b7 hw1.wr
    have etop : q_top (q_wr M1 t 0 (qr (q_top M))) = q_top M + 1 := c3
    rw [etop] at b2 b3 b4 b5 ⊢
    have kt3 := q_frk b1 hw1.wr (a := t) kt1 (by simp)
    have ks3 : q_kd M3 (q_top M) = (2, 2 * cap + 1) := q_frk b1 hw1.wr (a := q_top M) c2 (by simp)
    simp (disch := first | assumption | omega | (simp only [q_kd_wr, q_fv_wrE, q_top_wr, q_nc_wr, q_ns_wr, q_gs_wr, q_kd_al, q_fv_al, q_top_al, q_nc_al, q_ns_al, q_gs_al, q_kd_cp, q_fv_cpE, q_top_cp, q_nc_cp, q_ns_cp, q_gs_cp]; first | done | assumption | omega)) only [kX9_insert_47, q_kd_wr, q_fv_wrE, q_top_wr, q_nc_wr, q_ns_wr, q_gs_wr, q_kd_al, q_fv_al, q_top_al, q_nc_al, q_ns_al, q_gs_al, q_kd_cp, q_fv_cpE, q_top_cp, q_nc_cp, q_ns_cp, q_gs_cp]
    have v3 : ∀ j, q_fv M3 t j = if j = 0 then qr (q_top M) else q_fv M t j := fun j => by
      rw [q_frv b1 hw1.wr (a := t) kt1 (by simp) not_false j, q_fv_wrE]
      by_cases hj : j = 0
      · simp [hj]
      · simp [hj]; exact q_frv c1 hw kt (by simp) not_false j
    have s3 : ∀ j, q_fv M3 (q_top M) j = q_fv M1 (q_top M) j := fun j => by
      rw [q_frv b1 hw1.wr (a := q_top M) c2 (by simp) not_false j, q_fv_wrE, if_neg (fun q => tt1 q.1.symm)]
    have tlt := hw.lt (a := t) (by rw [kt]; simp)
    have hTL : TL (q_wr M3 t 1 (qr (q_top M + 1))) t (q_top M) (q_top M + 1) (2 * cap + 1) l := by
      refine ⟨kt3, ?_, ?_, ?_, ks3, b2, by omega, by omega, by omega, by omega, fun i hi => ?_, fun i hi => ⟨?_, ?_⟩⟩
      · rw [q_fv_wrE, if_neg (by simp), v3]; rfl
      · rw [q_fv_wrE, if_pos ⟨rfl, rfl⟩]
      · rw [q_fv_wrE, if_neg (by simp), v3]; exact f2
      · obtain ⟨e1, e2, e3⟩ := he i hi
        refine ⟨?_, ?_, e3⟩
        · rw [q_fv_wrE, if_neg (by omega), s3, c4 i (by omega)]; exact e1
        · rw [q_fv_wrE, if_neg (by omega), b4 i (by omega), q_fv_wrE, if_neg (fun q => tp q.1.symm), gp]; exact e2
      · rw [q_fv_wrE, if_neg (by omega), s3]
        by_cases h : i < cap
        · rw [c4 i h]; exact (hz i h).1
        · rw [c5 i (by omega)]; exact ⟨0, rfl⟩
      · rw [q_fv_wrE, if_neg (by omega)]
        by_cases h : i < cap
        · rw [b4 i h, q_fv_wrE, if_neg (fun q => tp q.1.symm), gp]; exact (hz i h).2
        · rw [b5 i (by omega)]; exact ⟨0, rfl⟩
    refine tl_room hTL hw3.wr (by omega) hpl h1 h2 (fun M' a b c => hP M' _ _ _ a ?_ (hw3.wr.qt c) ⟨by omega, ?_, ?_⟩ (Or.inr (Nat.le_refl _)) (Or.inr (Nat.le_succ _)))
    · refine (((c1.wk (fun _ _ h => h.elim)).tr (q_fr.wr (Or.inl rfl))).tr (b1.wk (fun _ _ h => h.elim))).tr2 ((q_fr.wr (Or.inl rfl)).tr2 b (fun x _ h => h)) (fun x hx h => ?_)
      rcases h with h | h | h
      · exact Or.inl h
      · omega
      · omega
    · have := c.2.2.1; have := b6.1; have := c6.1
      simp only [q_nc_wr] at *
      omega
    · have := c.2.2.2; have := b6.2; have := c6.2
      simp only [q_ns_wr] at *
      omega
-- put
def tlCut (l : List (Int × Int)) (d : Int) : List (Int × Int) := (l.reverse.dropWhile (fun q => decide (d ≤ q.1))).reverse
def tlPut (l : List (Int × Int)) (d v : Int) : List (Int × Int) := tlCut l d ++ [(d, v)]
theorem tlCut_snoc (l : List (Int × Int)) (q : Int × Int) (d : Int) : tlCut (l ++ [q]) d = if d ≤ q.1 then tlCut l d else l ++ [q] := by
  unfold tlCut
  rw [List.reverse_append, List.reverse_singleton, List.singleton_append, List.dropWhile_cons]
  by_cases h : d ≤ q.1
  · simp [h]
  · simp [h]
theorem TL.less {M : QM} {t s p cap : Nat} {l : List (Int × Int)} (hT : TL M t s p cap l) {k : Nat} (hk : k ≤ l.length) : TL (q_wr M t 2 (qi k)) t s p cap (l.take k) := by
  obtain ⟨kt, f0, f1, f2, ks', kp', hl, hc4, hc, hsp, he, hz⟩ := hT
  have ks : (q_kd M s).1 = 2 := by rw [ks']
  have ks2 : (q_kd M s).2 = cap := by rw [ks']
  have kp : (q_kd M p).1 = 2 := by rw [kp']
  have kp2 : (q_kd M p).2 = cap := by rw [kp']
  have ts := q_neK kt ks' (by simp)
  have tp := q_neK kt kp' (by simp)
  have hlen : (l.take k).length = k := by simp; omega
  refine ⟨kt, ?_, ?_, ?_, ks', kp', by omega, hc4, hc, hsp, fun i hi => ?_, fun i hi => ?_⟩
  · rw [q_fv_wrE, if_neg (by simp)]; exact f0
  · rw [q_fv_wrE, if_neg (by simp)]; exact f1
  · rw [q_fv_wrE, if_pos ⟨rfl, rfl⟩, hlen]
  · rw [hlen] at hi
    obtain ⟨e1, e2, e3⟩ := he i (by omega)
    rw [q_fv_wrE, q_fv_wrE, if_neg (fun q => ts q.1.symm), if_neg (fun q => tp q.1.symm)]
    simpa using ⟨e1, e2, e3⟩
  · rw [q_fv_wrE, q_fv_wrE, if_neg (fun q => ts q.1.symm), if_neg (fun q => tp q.1.symm)]
    exact hz i hi
theorem sX9_put {d : Nat} {M : QM} {t s p cap : Nat} {l : List (Int × Int)} {day par : Int} (hT : TL M t s p cap l) (hw : q_wf M) (hl9 : l.length ≤ 2000) (h1 : -100000 ≤ day ∧ day ≤ 100000) (h2 : -100000 ≤ par ∧ par ≤ 100000) {P : QP} (hP : ∀ M' s' p' cap', TL M' t s' p' cap' (tlPut l day par) → q_fr (fun a => a = t ∨ a = s ∨ a = p) M M' → q_wf M' → q_gr M M' cap cap' → (s' = s ∨ q_top M ≤ s') → (p' = p ∨ q_top M ≤ p') → P none M') : q_T (d + 3) iX9_put [qr t, qi day, qi par] M P := by
  have loop : ∀ (l : List (Int × Int)) (M1 : QM), TL M1 t s p cap l → q_wf M1 → l.length ≤ 2000 → (∀ M' s' p' cap', TL M' t s' p' cap' (tlPut l day par) → q_fr (fun a => a = t ∨ a = s ∨ a = p) M1 M' → q_wf M' → q_gr M1 M' cap cap' → (s' = s ∨ q_top M1 ≤ s') → (p' = p ∨ q_top M1 ≤ p') → P none M') → Rr (q_C (d + 2)) mX9_put (0, [some (qr t), some (qi day), some (qi par)], [], M1) P := by
    intro l
    have go : ∀ (n : Nat) (l : List (Int × Int)) (M1 : QM), l.length = n → TL M1 t s p cap l → q_wf M1 → l.length ≤ 2000 → (∀ M' s' p' cap', TL M' t s' p' cap' (tlPut l day par) → q_fr (fun a => a = t ∨ a = s ∨ a = p) M1 M' → q_wf M' → q_gr M1 M' cap cap' → (s' = s ∨ q_top M1 ≤ s') → (p' = p ∨ q_top M1 ≤ p') → P none M') → Rr (q_C (d + 2)) mX9_put (0, [some (qr t), some (qi day), some (qi par)], [], M1) P := by
      intro n
      induction n with
      | zero =>
        intro l M hn hT hw hl9 hP
        have hT' := hT
        obtain ⟨kt, f0, f1, f2, ks', kp', hl, hc4, hc, hsp, he, hz⟩ := hT
        have ks : (q_kd M s).1 = 2 := by rw [ks']
        have ks2 : (q_kd M s).2 = cap := by rw [ks']
        have kp : (q_kd M p).1 = 2 := by rw [kp']
        have kp2 : (q_kd M p).2 = cap := by rw [kp']
        have hnil : l = [] := List.length_eq_zero_iff.mp hn
        subst hnil
        simp (disch := first | assumption | omega | (simp only [q_kd_wr, q_fv_wrE, q_top_wr, q_nc_wr, q_ns_wr, q_gs_wr, q_kd_al, q_fv_al, q_top_al, q_nc_al, q_ns_al, q_gs_al, q_kd_cp, q_fv_cpE, q_top_cp, q_nc_cp, q_ns_cp, q_gs_cp]; first | done | assumption | omega)) only [kX9_put_0, kX9_put_1, kX9_put_4, kX9_put_7, kX9_put_8, kX9_put_11, kX9_put_12, kX9_put_15, kX9_put_16, kX9_put_17, kX9_put_18, kX9_put_19, kX9_put_22, kX9_put_23i, kX9_put_23r, kX9_put_24, kX9_put_27, kX9_put_28, kX9_put_29, kX9_put_32, kX9_put_35, kX9_put_36, kX9_put_37, kX9_put_40, kX9_put_41, kX9_put_45, q_cut_i, q_cut_r, q_cut_l, q_cut_n, if_pos, if_neg, f0, f1, f2, List.length_nil]
        obtain ⟨r, M2, hc1, g1, g2⟩ := sX9_insert (d := d) (pl := 0) hT' hw hl9 (Nat.zero_le _) h1 h2 (P := fun r M' => r = none ∧ P none M') (fun M' s' p' cap' a b c e f g => ⟨rfl, hP M' s' p' cap' a b c e f g⟩)
        subst g1
        refine kX9_put_42 kt hc1 (Nat.le_of_ble_eq_true rfl) ?_
        simp (disch := first | assumption | omega | (simp only [q_kd_wr, q_fv_wrE, q_top_wr, q_nc_wr, q_ns_wr, q_gs_wr, q_kd_al, q_fv_al, q_top_al, q_nc_al, q_ns_al, q_gs_al, q_kd_cp, q_fv_cpE, q_top_cp, q_nc_cp, q_ns_cp, q_gs_cp]; first | done | assumption | omega)) only [kX9_put_45]
        exact g2
      | succ n ih =>
        intro l M hn hT hw hl9 hP
        have hT' := hT
        obtain ⟨kt, f0, f1, f2, ks', kp', hl, hc4, hc, hsp, he, hz⟩ := hT
        have ks : (q_kd M s).1 = 2 := by rw [ks']
        have ks2 : (q_kd M s).2 = cap := by rw [ks']
        have kp : (q_kd M p).1 = 2 := by rw [kp']
        have kp2 : (q_kd M p).2 = cap := by rw [kp']
        obtain ⟨l0, q, hlq⟩ : ∃ l0 q, l = l0 ++ [q] := ⟨l.dropLast, l.getLast (by rintro rfl; simp at hn), (List.dropLast_concat_getLast _).symm⟩
        have hl0 : l0.length = n := by rw [hlq] at hn; simpa using hn
        obtain ⟨e1, e2, e3, e4, e5, e6⟩ := he n (by omega)
        have hq : l[n]'(by omega) = q := by subst hlq; simp [← hl0]
        rw [hq] at e1 e3 e4
        have en : ((l.length : Int) - 1).toNat = n := by omega
        have en2 : ((l.length : Int) - 1) = (n : Int) := by omega
        rw [hlq] at hP
        unfold tlPut at hP
        rw [tlCut_snoc] at hP
        by_cases hdq : day ≤ q.1
        · rw [if_pos hdq] at hP
          rw [kX9_put_0]
          simp (disch := first | assumption | omega | (simp only [q_kd_wr, q_fv_wrE, q_top_wr, q_nc_wr, q_ns_wr, q_gs_wr, q_kd_al, q_fv_al, q_top_al, q_nc_al, q_ns_al, q_gs_al, q_kd_cp, q_fv_cpE, q_top_cp, q_nc_cp, q_ns_cp, q_gs_cp]; first | done | assumption | omega)) only [kX9_put_1, kX9_put_4, kX9_put_7, kX9_put_8, kX9_put_11, kX9_put_12, kX9_put_15, kX9_put_16, kX9_put_17, kX9_put_18, kX9_put_19, kX9_put_22, kX9_put_23i, kX9_put_23r, kX9_put_24, kX9_put_27, kX9_put_28, kX9_put_29, kX9_put_32, q_cut_i, q_cut_r, q_cut_l, q_cut_n, if_pos, if_neg, f0, f1, f2, en, en2, e1, q_toN]
          have hT2 := hT'.less (k := n) (by omega)
          rw [hlq, ← hl0, List.take_left, hl0] at hT2
          refine ih l0 _ hl0 hT2 hw.wr (by omega) (fun M' s' p' cap' a b c e f g => hP M' s' p' cap' a ((q_fr.wr (Or.inl rfl)).tr b) c e f g)
        · rw [if_neg hdq] at hP
          simp (disch := first | assumption | omega | (simp only [q_kd_wr, q_fv_wrE, q_top_wr, q_nc_wr, q_ns_wr, q_gs_wr, q_kd_al, q_fv_al, q_top_al, q_nc_al, q_ns_al, q_gs_al, q_kd_cp, q_fv_cpE, q_top_cp, q_nc_cp, q_ns_cp, q_gs_cp]; first | done | assumption | omega)) only [kX9_put_0, kX9_put_1, kX9_put_4, kX9_put_7, kX9_put_8, kX9_put_11, kX9_put_12, kX9_put_15, kX9_put_16, kX9_put_17, kX9_put_18, kX9_put_19, kX9_put_22, kX9_put_23i, kX9_put_23r, kX9_put_24, kX9_put_27, kX9_put_28, kX9_put_29, kX9_put_32, kX9_put_35, kX9_put_36, kX9_put_37, kX9_put_40, kX9_put_41, kX9_put_45, q_cut_i, q_cut_r, q_cut_l, q_cut_n, if_pos, if_neg, f0, f1, f2, en, en2, e1, q_toN]
          obtain ⟨r, M2, hc1, g1, g2⟩ := sX9_insert (d := d) (pl := l.length) hT' hw hl9 (Nat.le_refl _) h1 h2 (P := fun r M' => r = none ∧ P none M') (fun M' s' p' cap' a b c e f g => ⟨rfl, hP M' s' p' cap' (by
            have : tlIns l l.length (day, par) = l0 ++ [q] ++ [(day, par)] := by unfold tlIns; rw [List.take_length, List.drop_length, hlq]
            rw [← this]; exact a) b c e f g⟩)
          subst g1
          refine kX9_put_42 kt hc1 (Nat.le_of_ble_eq_true rfl) ?_
          simp (disch := first | assumption | omega | (simp only [q_kd_wr, q_fv_wrE, q_top_wr, q_nc_wr, q_ns_wr, q_gs_wr, q_kd_al, q_fv_al, q_top_al, q_nc_al, q_ns_al, q_gs_al, q_kd_cp, q_fv_cpE, q_top_cp, q_nc_cp, q_ns_cp, q_gs_cp]; first | done | assumption | omega)) only [kX9_put_45]
          exact g2
    intro M1
    exact go l.length l M1 rfl
  rw [eX9_put]
  exact loop l M hT hw hl9 hP
-- firstDayWith
def tlHd : List (Int × Int) → Int
  | [] => 10000
  | q :: _ => q.1
theorem tlStop_hd {l : List (Int × Int)} {i : Nat} : tlStop l i = tlHd (l.drop (i + 1)) := by
  unfold tlStop
  by_cases h : i + 1 < l.length
  · rw [dif_pos h, List.drop_eq_getElem_cons h]; rfl
  · rw [dif_neg h, List.drop_eq_nil_of_le (by omega)]; rfl
def tlFst (par day e : Int) : List (Int × Int) → Int
  | [] => -1
  | q :: rest => if q.2 = par ∧ max q.1 day < min (tlHd rest) e then max q.1 day else tlFst par day e rest
theorem tlHd_R {l : List (Int × Int)} (h : ∀ i (h : i < l.length), -100000 ≤ l[i].1 ∧ l[i].1 ≤ 100000) (k : Nat) : -100000 ≤ tlHd (l.drop k) ∧ tlHd (l.drop k) ≤ 100000 := by
  by_cases hk : k < l.length
  · rw [List.drop_eq_getElem_cons hk]; exact h k hk
  · rw [List.drop_eq_nil_of_le (by omega)]; exact ⟨by decide, by decide⟩
theorem sX9_firstDayWith {d : Nat} {M : QM} {t s p cap : Nat} {l : List (Int × Int)} {par day e : Int} (hT : TL M t s p cap l) (h1 : -2147483648 ≤ par ∧ par < 2147483648) (h2 : -2147483648 ≤ day ∧ day < 2147483648) (h3 : -2147483648 ≤ e ∧ e < 2147483648) {P : QP} (hP : P (some (qi (tlFst par day e l))) M) : q_T (d + 2) iX9_firstDayWith [qr t, qi par, qi day, qi e] M P := by
  have hT' := hT
  obtain ⟨kt, f0, f1, f2, ks', kp', hl, hc4, hc, hsp, he, hz⟩ := hT
  have ks : (q_kd M s).1 = 2 := by rw [ks']
  have ks2 : (q_kd M s).2 = cap := by rw [ks']
  have kp : (q_kd M p).1 = 2 := by rw [kp']
  have kp2 : (q_kd M p).2 = cap := by rw [kp']
  have loop : ∀ (n k : Nat) (y : Option CV), l.length - k = n → k ≤ l.length → tlFst par day e (l.drop k) = tlFst par day e l → Rr (q_C (d + 1)) mX9_firstDayWith (3, [some (qr t), some (qi par), some (qi day), some (qi e), some (qi k), y], [], M) P := by
    intro n
    induction n with
    | zero =>
      intro k y hn hk ha
      rw [List.drop_eq_nil_of_le (by omega)] at ha
      simp (disch := first | assumption | omega | (simp only [q_kd_wr, q_fv_wrE, q_top_wr, q_nc_wr, q_ns_wr, q_gs_wr, q_kd_al, q_fv_al, q_top_al, q_nc_al, q_ns_al, q_gs_al, q_kd_cp, q_fv_cpE, q_top_cp, q_nc_cp, q_ns_cp, q_gs_cp]; first | done | assumption | omega)) only [kX9_firstDayWith_3, kX9_firstDayWith_5, kX9_firstDayWith_6, kX9_firstDayWith_9, kX9_firstDayWith_60, kX9_firstDayWith_61, q_cut_i, q_cut_r, q_cut_l, q_cut_n, if_pos, if_neg, f2]
      rw [← ha] at hP
      exact hP
    | succ n ih =>
      intro k y hn hk ha
      have hkl : k < l.length := by omega
      obtain ⟨e1, e2, e3, e4, e5, e6⟩ := he k hkl
      rw [List.drop_eq_getElem_cons hkl] at ha
      simp only [tlFst] at ha
      have hst := tlHd_R (fun i h => ⟨(he i h).2.2.1, (he i h).2.2.2.1⟩) (k + 1)
      have hmx : -2147483648 ≤ max l[k].1 day ∧ max l[k].1 day < 2147483648 := by omega
      have ek : (k : Int) + 1 = ((k + 1 : Nat) : Int) := by omega
      rw [kX9_firstDayWith_3]
      simp (disch := first | assumption | omega | (simp only [q_kd_wr, q_fv_wrE, q_top_wr, q_nc_wr, q_ns_wr, q_gs_wr, q_kd_al, q_fv_al, q_top_al, q_nc_al, q_ns_al, q_gs_al, q_kd_cp, q_fv_cpE, q_top_cp, q_nc_cp, q_ns_cp, q_gs_cp]; first | done | assumption | omega)) only [kX9_firstDayWith_5, kX9_firstDayWith_6, kX9_firstDayWith_9, kX9_firstDayWith_12, kX9_firstDayWith_13, kX9_firstDayWith_16, kX9_firstDayWith_18, q_cut_i, q_cut_r, q_cut_l, q_cut_n, if_pos, if_neg, f0, f1, f2, e1, q_toN]
      rw [kX9_firstDayWith_19]
      rw [kX9_firstDayWith_20 (by omega) (by omega) (by omega) (by omega) (Nat.le_of_ble_eq_true rfl)]
      by_cases hv : l[k].2 = par
      · simp (disch := first | assumption | omega | (simp only [q_kd_wr, q_fv_wrE, q_top_wr, q_nc_wr, q_ns_wr, q_gs_wr, q_kd_al, q_fv_al, q_top_al, q_nc_al, q_ns_al, q_gs_al, q_kd_cp, q_fv_cpE, q_top_cp, q_nc_cp, q_ns_cp, q_gs_cp]; first | done | assumption | omega)) only [kX9_firstDayWith_23, kX9_firstDayWith_25, kX9_firstDayWith_26, kX9_firstDayWith_29, kX9_firstDayWith_31, kX9_firstDayWith_32, kX9_firstDayWith_33, kX9_firstDayWith_36, kX9_firstDayWith_38, kX9_firstDayWith_39, q_cut_i, q_cut_r, q_cut_l, q_cut_n, if_pos, if_neg, f0, f1, f2, e2, q_toN, if_pos hv]
        refine kX9_firstDayWith_41 kt (q_Tx (sX9_stopOf hT' hkl ⟨rfl, rfl⟩)) (Nat.le_of_ble_eq_true rfl) ?_
        rw [tlStop_hd]
        rw [kX9_firstDayWith_44]
        rw [kX9_firstDayWith_45 (by omega) (by omega) (by omega) (by omega) (Nat.le_of_ble_eq_true rfl)]
        by_cases hf : max l[k].1 day < min (tlHd (l.drop (k + 1))) e
        · rw [if_pos ⟨hv, hf⟩] at ha
          simp (disch := first | assumption | omega | (simp only [q_kd_wr, q_fv_wrE, q_top_wr, q_nc_wr, q_ns_wr, q_gs_wr, q_kd_al, q_fv_al, q_top_al, q_nc_al, q_ns_al, q_gs_al, q_kd_cp, q_fv_cpE, q_top_cp, q_nc_cp, q_ns_cp, q_gs_cp]; first | done | assumption | omega)) only [kX9_firstDayWith_48, kX9_firstDayWith_51, kX9_firstDayWith_53, q_cut_i, q_cut_r, q_cut_l, q_cut_n, if_pos, if_neg, if_pos hf]
          rw [ha]; exact hP
        · rw [if_neg (fun q => hf q.2)] at ha
          simp (disch := first | assumption | omega | (simp only [q_kd_wr, q_fv_wrE, q_top_wr, q_nc_wr, q_ns_wr, q_gs_wr, q_kd_al, q_fv_al, q_top_al, q_nc_al, q_ns_al, q_gs_al, q_kd_cp, q_fv_cpE, q_top_cp, q_nc_cp, q_ns_cp, q_gs_cp]; first | done | assumption | omega)) only [kX9_firstDayWith_48, kX9_firstDayWith_51, kX9_firstDayWith_53, kX9_firstDayWith_54, kX9_firstDayWith_57, q_cut_i, q_cut_r, q_cut_l, q_cut_n, if_pos, if_neg, if_neg hf, ek]
          exact ih (k + 1) _ (by omega) hkl ha
      · rw [if_neg (fun q => hv q.1)] at ha
        simp (disch := first | assumption | omega | (simp only [q_kd_wr, q_fv_wrE, q_top_wr, q_nc_wr, q_ns_wr, q_gs_wr, q_kd_al, q_fv_al, q_top_al, q_nc_al, q_ns_al, q_gs_al, q_kd_cp, q_fv_cpE, q_top_cp, q_nc_cp, q_ns_cp, q_gs_cp]; first | done | assumption | omega)) only [kX9_firstDayWith_23, kX9_firstDayWith_25, kX9_firstDayWith_26, kX9_firstDayWith_29, kX9_firstDayWith_31, kX9_firstDayWith_32, kX9_firstDayWith_33, kX9_firstDayWith_54, kX9_firstDayWith_57, q_cut_i, q_cut_r, q_cut_l, q_cut_n, if_pos, if_neg, f0, f1, f2, e2, q_toN, if_neg hv, ek]
        exact ih (k + 1) _ (by omega) hkl ha
  rw [eX9_firstDayWith]
  simp (disch := first | assumption | omega | (simp only [q_kd_wr, q_fv_wrE, q_top_wr, q_nc_wr, q_ns_wr, q_gs_wr, q_kd_al, q_fv_al, q_top_al, q_nc_al, q_ns_al, q_gs_al, q_kd_cp, q_fv_cpE, q_top_cp, q_nc_cp, q_ns_cp, q_gs_cp]; first | done | assumption | omega)) only [kX9_firstDayWith_0, kX9_firstDayWith_1, q_cut_i, q_cut_r, q_cut_l, q_cut_n]
  exact loop l.length 0 _ rfl (Nat.zero_le _) rfl
-- replace
def tlRep (day old par : Int) : List (Int × Int) → List (Int × Int)
  | [] => []
  | q :: rest => (if q.2 = old ∧ day < tlHd rest then (if q.1 < day then [q, (day, par)] else [(q.1, par)]) else [q]) ++ tlRep day old par rest
theorem tlRep_hd {day old par : Int} : ∀ l : List (Int × Int), tlHd (tlRep day old par l) = tlHd l
  | [] => rfl
  | q :: rest => by
    unfold tlRep
    split
    · split <;> rfl
    · rfl
theorem tlRep_len {day old par : Int} : ∀ l : List (Int × Int), (tlRep day old par l).length ≤ 2 * l.length
  | [] => Nat.le_refl _
  | q :: rest => by
    have := tlRep_len (day := day) (old := old) (par := par) rest
    unfold tlRep
    split
    · split <;> simp <;> omega
    · simp; omega
theorem TL.setv {M : QM} {t s p cap : Nat} {l : List (Int × Int)} (hT : TL M t s p cap l) {k : Nat} (hk : k < l.length) {v : Int} (hv : -100000 ≤ v ∧ v ≤ 100000) : TL (q_wr M p k (qi v)) t s p cap (l.set k (l[k].1, v)) := by
  obtain ⟨kt, f0, f1, f2, ks', kp', hl, hc4, hc, hsp, he, hz⟩ := hT
  have ks : (q_kd M s).1 = 2 := by rw [ks']
  have ks2 : (q_kd M s).2 = cap := by rw [ks']
  have kp : (q_kd M p).1 = 2 := by rw [kp']
  have kp2 : (q_kd M p).2 = cap := by rw [kp']
  have ts := q_neK kt ks' (by simp)
  have tp := q_neK kt kp' (by simp)
  refine ⟨kt, ?_, ?_, ?_, ks', kp', by simp; omega, hc4, hc, hsp, fun i hi => ?_, fun i hi => ?_⟩
  · rw [q_fv_wrE, if_neg (fun q => tp q.1)]; exact f0
  · rw [q_fv_wrE, if_neg (fun q => tp q.1)]; exact f1
  · rw [q_fv_wrE, if_neg (fun q => tp q.1), List.length_set]; exact f2
  · have hil : i < l.length := by simpa using hi
    obtain ⟨e1, e2, e3⟩ := he i hil
    rw [q_fv_wrE, if_neg (fun q => hsp q.1), q_fv_wrE, List.getElem_set]
    by_cases hik : k = i
    · subst hik
      simp only [true_and, if_true]
      exact ⟨e1, e3.1, e3.2.1, hv⟩
    · rw [if_neg hik, if_neg (fun q => hik q.2.symm)]
      exact ⟨e1, e2, e3⟩
  · rw [q_fv_wrE, if_neg (fun q => hsp q.1), q_fv_wrE]
    refine ⟨(hz i hi).1, ?_⟩
    split
    · exact ⟨_, rfl⟩
    · exact (hz i hi).2
theorem tlRep_cons {day old par : Int} (l : List (Int × Int)) (j : Nat) (hj : j < l.length) : tlRep day old par (l.drop j) = (if l[j].2 = old ∧ day < tlHd (l.drop (j + 1)) then (if l[j].1 < day then [l[j], (day, par)] else [(l[j].1, par)]) else [l[j]]) ++ tlRep day old par (l.drop (j + 1)) := by
  rw [List.drop_eq_getElem_cons hj]
  rfl
set_option maxHeartbeats 1000000 in
theorem sX9_replace {d : Nat} {M : QM} {t s p cap : Nat} {l : List (Int × Int)} {day old par : Int} (hT : TL M t s p cap l) (hw : q_wf M) (hl9 : l.length ≤ 1000) (h1 : -100000 ≤ day ∧ day ≤ 100000) (h2 : -100000 ≤ par ∧ par ≤ 100000) (h3 : -2147483648 ≤ old ∧ old < 2147483648) {P : QP} (hP : ∀ M' s' p' cap', TL M' t s' p' cap' (tlRep day old par l) → q_fr (fun a => a = t ∨ a = s ∨ a = p) M M' → q_wf M' → q_gr M M' cap cap' → (s' = s ∨ q_top M ≤ s') → (p' = p ∨ q_top M ≤ p') → P none M') : q_T (d + 3) iX9_replace [qr t, qi day, qi old, qi par] M P := by
  have loop : ∀ k : Nat, k ≤ l.length → ∀ M1 s1 p1 cap1, TL M1 t s1 p1 cap1 (l.take k ++ tlRep day old par (l.drop k)) → q_fr (fun a => a = t ∨ a = s ∨ a = p) M M1 → q_wf M1 → q_gr M M1 cap cap1 → (s1 = s ∨ q_top M ≤ s1) → (p1 = p ∨ q_top M ≤ p1) → Rr (q_C (d + 2)) mX9_replace (8, [some (qr t), some (qi day), some (qi old), some (qi par), some (qi ((k : Int) - 1))], [], M1) P := by
    intro k
    induction k with
    | zero =>
      intro _ M1 s1 p1 cap1 hT1 b1 b2 b3 b4 b5
      simp (disch := first | assumption | omega | (simp only [q_kd_wr, q_fv_wrE, q_top_wr, q_nc_wr, q_ns_wr, q_gs_wr, q_kd_al, q_fv_al, q_top_al, q_nc_al, q_ns_al, q_gs_al, q_kd_cp, q_fv_cpE, q_top_cp, q_nc_cp, q_ns_cp, q_gs_cp]; first | done | assumption | omega)) only [kX9_replace_8, kX9_replace_10, kX9_replace_75, q_cut_i, q_cut_r, q_cut_l, q_cut_n, if_pos, if_neg]
      exact hP M1 s1 p1 cap1 (by simpa using hT1) b1 b2 b3 b4 b5
    | succ j ih =>
      intro hj M1 s1 p1 cap1 hT1 b1 b2 b3 b4 b5
      have hjl : j < l.length := by omega
      have e : (((j + 1 : Nat) : Int) - 1) = (j : Int) := by omega
      have e' : (j : Int) + (-1) = (j : Int) - 1 := by omega
      have htk : l.take (j + 1) = l.take j ++ [l[j]] := by rw [List.take_add_one]; simp [List.getElem?_eq_getElem hjl]
      have hlt : (l.take j).length = j := by simp; omega
      obtain ⟨cur, hcur⟩ : ∃ cur, cur = l.take (j + 1) ++ tlRep day old par (l.drop (j + 1)) := ⟨_, rfl⟩
      rw [← hcur] at hT1
      have hclen : cur.length ≤ 2000 := by
        rw [hcur, List.length_append]
        have := tlRep_len (day := day) (old := old) (par := par) (l.drop (j + 1))
        rw [List.length_drop] at this
        rw [List.length_take]
        omega
      have hjc : j < cur.length := by rw [hcur, List.length_append, List.length_take]; omega
      have hcj : cur[j] = l[j] := by
        subst hcur
        rw [List.getElem_append_left (by rw [List.length_take]; omega), List.getElem_take]
      have hdrop : cur.drop (j + 1) = tlRep day old par (l.drop (j + 1)) := by
        have : (l.take (j + 1)).length = j + 1 := by simp; omega
        rw [hcur]; exact List.drop_left' this
      have hstop : tlStop cur j = tlHd (l.drop (j + 1)) := by rw [tlStop_hd, hdrop, tlRep_hd]
      have hT1' := hT1
      obtain ⟨kt, f0, f1, f2, ks', kp', hl, hc4, hc, hsp, he, hz⟩ := hT1
      have ks : (q_kd M1 s1).1 = 2 := by rw [ks']
      have ks2 : (q_kd M1 s1).2 = cap1 := by rw [ks']
      have kp : (q_kd M1 p1).1 = 2 := by rw [kp']
      have kp2 : (q_kd M1 p1).2 = cap1 := by rw [kp']
      obtain ⟨e1, e2, e3, e4, e5, e6⟩ := he j hjc
      rw [hcj] at e1 e2 e3 e4 e5 e6
      have hst := tlHd_R (fun i h => ⟨(he i h).2.2.1, (he i h).2.2.2.1⟩) (j + 1)
      rw [hdrop, tlRep_hd] at hst
      rw [e]
      have tlt := hw
      by_cases hv : l[j].2 = old
      · rw [kX9_replace_8]
        simp (disch := first | assumption | omega | (simp only [q_kd_wr, q_fv_wrE, q_top_wr, q_nc_wr, q_ns_wr, q_gs_wr, q_kd_al, q_fv_al, q_top_al, q_nc_al, q_ns_al, q_gs_al, q_kd_cp, q_fv_cpE, q_top_cp, q_nc_cp, q_ns_cp, q_gs_cp]; first | done | assumption | omega)) only [kX9_replace_10, kX9_replace_13, kX9_replace_14, kX9_replace_17, kX9_replace_19, kX9_replace_20, kX9_replace_21, kX9_replace_24, kX9_replace_25, q_cut_i, q_cut_r, q_cut_l, q_cut_n, if_pos, if_neg, f0, f1, f2, e2, q_toN, if_pos hv]
        refine kX9_replace_27 kt (q_Tx (sX9_stopOf hT1' hjc ⟨rfl, rfl⟩)) (Nat.le_of_ble_eq_true rfl) ?_
        rw [hstop]
        by_cases hs : day < tlHd (l.drop (j + 1))
        · by_cases ha : l[j].1 < day
          · -- a new piece behind this one
            have en : (j : Int) + 1 = ((j + 1 : Nat) : Int) := by omega
            simp (disch := first | assumption | omega | (simp only [q_kd_wr, q_fv_wrE, q_top_wr, q_nc_wr, q_ns_wr, q_gs_wr, q_kd_al, q_fv_al, q_top_al, q_nc_al, q_ns_al, q_gs_al, q_kd_cp, q_fv_cpE, q_top_cp, q_nc_cp, q_ns_cp, q_gs_cp]; first | done | assumption | omega)) only [kX9_replace_30, kX9_replace_31, kX9_replace_34, kX9_replace_37, kX9_replace_38, kX9_replace_41, kX9_replace_43, kX9_replace_44, kX9_replace_45, kX9_replace_48, kX9_replace_49, kX9_replace_52, kX9_replace_54, kX9_replace_55, kX9_replace_56, kX9_replace_59, kX9_replace_60, kX9_replace_62, kX9_replace_63, kX9_replace_64, kX9_replace_65, q_cut_i, q_cut_r, q_cut_l, q_cut_n, if_pos, if_neg, f0, f1, f2, e1, q_toN, if_pos hs, if_pos ha, en]
            obtain ⟨r, M2, hc1, g1, g2⟩ := sX9_insert (d := d) (pl := j + 1) hT1' b2 hclen hjc h1 h2 (P := fun r M' => r = none ∧ ∃ s' p' cap', TL M' t s' p' cap' (tlIns cur (j + 1) (day, par)) ∧ q_fr (fun a => a = t ∨ a = s1 ∨ a = p1) M1 M' ∧ q_wf M' ∧ q_gr M1 M' cap1 cap' ∧ (s' = s1 ∨ q_top M1 ≤ s') ∧ (p' = p1 ∨ q_top M1 ≤ p')) (fun M' s' p' cap' a b c e f g => ⟨rfl, s', p', cap', a, b, c, e, f, g⟩)
            subst g1
            obtain ⟨s2, p2, cap2, c1, c2, c3, c4, c5, c6⟩ := g2
            refine kX9_replace_66 kt hc1 (Nat.le_of_ble_eq_true rfl) ?_
            simp (disch := first | assumption | omega | (simp only [q_kd_wr, q_fv_wrE, q_top_wr, q_nc_wr, q_ns_wr, q_gs_wr, q_kd_al, q_fv_al, q_top_al, q_nc_al, q_ns_al, q_gs_al, q_kd_cp, q_fv_cpE, q_top_cp, q_nc_cp, q_ns_cp, q_gs_cp]; first | done | assumption | omega)) only [kX9_replace_69, kX9_replace_72, q_cut_i, q_cut_r, q_cut_l, q_cut_n, e']
            have htop := b1.1
            refine ih (by omega) M2 s2 p2 cap2 ?_ (b1.tr2 c2 (fun a ha h => ?_)) c3 ⟨by have := b3.1; have := c4.1; omega, by have := b3.2.1; have := c4.2.1; omega, by have := b3.2.2; have := c4.2.2; omega⟩ ?_ ?_
            · rw [tlRep_cons l j hjl, if_pos ⟨hv, hs⟩, if_pos ha]
              have : tlIns cur (j + 1) (day, par) = l.take j ++ ([l[j], (day, par)] ++ tlRep day old par (l.drop (j + 1))) := by
                unfold tlIns
                rw [hdrop, hcur]
                have h9 : (l.take (j + 1)).length = j + 1 := by simp; omega
                rw [List.take_append_of_le_length (by omega), List.take_of_length_le (by omega), htk]
                simp only [List.append_assoc, List.cons_append, List.nil_append]
              rw [← this]; exact c1
            · rcases h with h | h | h
              · exact Or.inl h
              · rcases b4 with q | q
                · exact Or.inr (Or.inl (h.trans q))
                · omega
              · rcases b5 with q | q
                · exact Or.inr (Or.inr (h.trans q))
                · omega
            · rcases c5 with q | q
              · rw [q]; exact b4
              · exact Or.inr (by omega)
            · rcases c6 with q | q
              · rw [q]; exact b5
              · exact Or.inr (by omega)
          · -- the whole piece
            have hset := hT1'.setv hjc h2
            simp (disch := first | assumption | omega | (simp only [q_kd_wr, q_fv_wrE, q_top_wr, q_nc_wr, q_ns_wr, q_gs_wr, q_kd_al, q_fv_al, q_top_al, q_nc_al, q_ns_al, q_gs_al, q_kd_cp, q_fv_cpE, q_top_cp, q_nc_cp, q_ns_cp, q_gs_cp]; first | done | assumption | omega)) only [kX9_replace_30, kX9_replace_31, kX9_replace_34, kX9_replace_37, kX9_replace_38, kX9_replace_41, kX9_replace_43, kX9_replace_44, kX9_replace_45, kX9_replace_48, kX9_replace_49, kX9_replace_52, kX9_replace_54, kX9_replace_55, kX9_replace_56, kX9_replace_59, kX9_replace_60, kX9_replace_62, kX9_replace_63, kX9_replace_64, kX9_replace_65, kX9_replace_69, kX9_replace_72, q_cut_i, q_cut_r, q_cut_l, q_cut_n, if_pos, if_neg, f0, f1, f2, e1, q_toN, if_pos hs, if_neg ha, e']
            refine ih (by omega) _ s1 p1 cap1 ?_ (b1.tr2 (q_fr.wr (A := fun a => a = p1) rfl) (fun a ha h => ?_)) b2.wr ⟨b3.1, b3.2.1, b3.2.2⟩ b4 b5
            · rw [tlRep_cons l j hjl, if_pos ⟨hv, hs⟩, if_neg ha]
              have : cur.set j (cur[j].1, par) = l.take j ++ ([(l[j].1, par)] ++ tlRep day old par (l.drop (j + 1))) := by
                rw [hcj, hcur, htk, List.append_assoc, List.set_append_right _ _ (by omega)]
                simp [hlt]
              rw [← this]; exact hset
            · rcases b5 with q | q
              · exact Or.inr (Or.inr (h.trans q))
              · rw [h] at ha; omega
        · simp (disch := first | assumption | omega | (simp only [q_kd_wr, q_fv_wrE, q_top_wr, q_nc_wr, q_ns_wr, q_gs_wr, q_kd_al, q_fv_al, q_top_al, q_nc_al, q_ns_al, q_gs_al, q_kd_cp, q_fv_cpE, q_top_cp, q_nc_cp, q_ns_cp, q_gs_cp]; first | done | assumption | omega)) only [kX9_replace_30, kX9_replace_31, kX9_replace_34, kX9_replace_37, kX9_replace_38, kX9_replace_41, kX9_replace_43, kX9_replace_44, kX9_replace_45, kX9_replace_48, kX9_replace_49, kX9_replace_52, kX9_replace_54, kX9_replace_55, kX9_replace_56, kX9_replace_59, kX9_replace_60, kX9_replace_62, kX9_replace_63, kX9_replace_64, kX9_replace_65, kX9_replace_69, kX9_replace_72, q_cut_i, q_cut_r, q_cut_l, q_cut_n, if_pos, if_neg, f0, f1, f2, e1, q_toN, if_neg hs, e']
          refine ih (by omega) M1 s1 p1 cap1 ?_ b1 b2 b3 b4 b5
          rw [tlRep_cons l j hjl, if_neg (fun q => hs q.2)]
          rw [hcur, htk, List.append_assoc] at hT1'
          exact hT1'
      · rw [kX9_replace_8]
        simp (disch := first | assumption | omega | (simp only [q_kd_wr, q_fv_wrE, q_top_wr, q_nc_wr, q_ns_wr, q_gs_wr, q_kd_al, q_fv_al, q_top_al, q_nc_al, q_ns_al, q_gs_al, q_kd_cp, q_fv_cpE, q_top_cp, q_nc_cp, q_ns_cp, q_gs_cp]; first | done | assumption | omega)) only [kX9_replace_10, kX9_replace_13, kX9_replace_14, kX9_replace_17, kX9_replace_19, kX9_replace_20, kX9_replace_21, kX9_replace_69, kX9_replace_72, q_cut_i, q_cut_r, q_cut_l, q_cut_n, if_pos, if_neg, f0, f1, f2, e2, q_toN, if_neg hv, e']
        refine ih (by omega) M1 s1 p1 cap1 ?_ b1 b2 b3 b4 b5
        rw [tlRep_cons l j hjl, if_neg (fun q => hv q.1)]
        rw [hcur, htk, List.append_assoc] at hT1'
        exact hT1'
  have hT' := hT
  obtain ⟨kt, f0, f1, f2, ks', kp', hl, hc4, hc, hsp, he, hz⟩ := hT
  have ks : (q_kd M s).1 = 2 := by rw [ks']
  have ks2 : (q_kd M s).2 = cap := by rw [ks']
  have kp : (q_kd M p).1 = 2 := by rw [kp']
  have kp2 : (q_kd M p).2 = cap := by rw [kp']
  rw [eX9_replace]
  simp (disch := first | assumption | omega | (simp only [q_kd_wr, q_fv_wrE, q_top_wr, q_nc_wr, q_ns_wr, q_gs_wr, q_kd_al, q_fv_al, q_top_al, q_nc_al, q_ns_al, q_gs_al, q_kd_cp, q_fv_cpE, q_top_cp, q_nc_cp, q_ns_cp, q_gs_cp]; first | done | assumption | omega)) only [kX9_replace_0, kX9_replace_1, kX9_replace_4, kX9_replace_5, kX9_replace_6, q_cut_i, q_cut_r, q_cut_l, q_cut_n, f2]
  exact loop l.length (Nat.le_refl _) M s p cap (by rw [List.take_length, List.drop_length]; simpa [tlRep] using hT') q_fr.rf hw (q_gr.rf q_qt.rf) (Or.inl rfl) (Or.inl rfl)
