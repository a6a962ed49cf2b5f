/-! History.parentOn -/
def TLM (M M' : QM) (t s p cap s' p' cap' : Nat) (l : List (Int × Int)) : Prop := TL M' t s' p' cap' l ∧ q_fr (fun a => a = t ∨ a = s ∨ a = p) M M' ∧ q_wf M' ∧ q_gr M M' cap cap' ∧ (s' = s ∨ q_top M ≤ s') ∧ (p' = p ∨ q_top M ≤ p')
theorem TLM.st {M M1 M2 : QM} {t s p cap s1 p1 cap1 s2 p2 cap2 : Nat} {l l2 : List (Int × Int)} (h : TLM M M1 t s p cap s1 p1 cap1 l) (h2 : TLM M1 M2 t s1 p1 cap1 s2 p2 cap2 l2) : TLM M M2 t s p cap s2 p2 cap2 l2 := by
  obtain ⟨a1, a2, a3, a4, a5, a6⟩ := h
  obtain ⟨b1, b2, b3, b4, b5, b6⟩ := h2
  have ht := a2.1
  refine ⟨b1, a2.tr2 b2 ?_, b3, ⟨?_, ?_, ?_⟩, ?_, ?_⟩
  · intro a ha hb
    rcases hb with h | h | h
    · exact Or.inl h
    · rcases a5 with q | q
      · exact Or.inr (Or.inl (h.trans q))
      · omega
    · rcases a6 with q | q
      · exact Or.inr (Or.inr (h.trans q))
      · omega
  · have := a4.1; have := b4.1; omega
  · have := a4.2.1; have := b4.2.1; omega
  · have := a4.2.2; have := b4.2.2; omega
  · rcases b5 with h | h
    · rw [h]; exact a5
    · exact Or.inr (by omega)
  · rcases b6 with h | h
    · rw [h]; exact a6
    · exact Or.inr (by omega)
theorem tlAt_R {M : QM} {t s p cap : Nat} {l : List (Int × Int)} (hT : TL M t s p cap l) (d : Int) : -2147483648 ≤ tlAt l d ∧ tlAt l d < 2147483648 := by
  have h : ∀ q ∈ l, -100000 ≤ q.2 ∧ q.2 ≤ 100000 := by
    intro q hq
    obtain ⟨i, hi, rfl⟩ := List.getElem_of_mem hq
    have := hT.2.2.2.2.2.2.2.2.2.2.1 i hi
    exact ⟨this.2.2.2.2.1, this.2.2.2.2.2⟩
  suffices g : ∀ l : List (Int × Int), (∀ q ∈ l, -100000 ≤ q.2 ∧ q.2 ≤ 100000) → ∀ acc : Int, -100000 ≤ acc ∧ acc ≤ 100000 → -100000 ≤ tlF acc l d ∧ tlF acc l d ≤ 100000 by
    have := g l h (-5) (by omega)
    rw [tlF_at]; omega
  intro l
  induction l with
  | nil => intro _ acc h; exact h
  | cons q l ih =>
    intro h acc ha
    rw [tlF_cons]
    refine ih (fun r hr => h r (by simp [hr])) _ ?_
    have := h q (by simp)
    split
    · exact this
    · exact ha
set_option maxHeartbeats 4000000 in
theorem sX1_parentOn {d : Nat} {M : QM} {t s p r tt ts tp cap : Nat} {l : List (Int × Int × Int)} {tl0 : List (Int × Int)} {day : Int} (hT : HI M t s p r l) (hw : q_wf M) (hL : TL M tt ts tp cap tl0) (hk0 : l.length ≤ 24) (hst : tlSrt tl0) (hl0 : tl0.length ≤ 100) (hday : -2147483648 ≤ day ∧ day < 2147483648) (hap : ∀ a, a = s ∨ a = p ∨ a = r → a ≠ ts ∧ a ≠ tp) {P : QP}
    (hP : ∀ M' ts' tp' cap', TLM M M' tt ts tp cap ts' tp' cap' (evFold day tl0 l).1 → P (some (qi (if (evFold day tl0 l).2 = true then tlAt (evFold day tl0 l).1 day else -5))) M') :
    q_T (d + 4) iX1_parentOn [qr t, qi day, qr tt] M P := by
  have hT0 := hT
  have kt := hT.1
  have ktt := hL.1
  have ks := hT.2.2.2.2.2.1
  have kp := hT.2.2.2.2.2.2.1
  have kr := hT.2.2.2.2.2.2.2.1
  have hA : ∀ a, (a = t ∨ a = s ∨ a = p ∨ a = r) → ¬ (a = tt ∨ a = ts ∨ a = tp) := by
    have ntt := q_neK kt ktt (by simp)
    have nts := q_neK kt hL.2.2.2.2.1 (by simp)
    have ntp := q_neK kt hL.2.2.2.2.2.1 (by simp)
    have nst := q_neK ks ktt (by simp)
    have npt := q_neK kp ktt (by simp)
    have nrt := q_neK kr ktt (by simp)
    intro a ha
    rcases ha with rfl | rfl | rfl | rfl
    · rintro (h | h | h)
      · exact ntt h
      · exact nts h
      · exact ntp h
    · have := hap a (Or.inl rfl)
      rintro (h | h | h)
      · exact nst h
      · exact this.1 h
      · exact this.2 h
    · have := hap a (Or.inr (Or.inl rfl))
      rintro (h | h | h)
      · exact npt h
      · exact this.1 h
      · exact this.2 h
    · have := hap a (Or.inr (Or.inr rfl))
      rintro (h | h | h)
      · exact nrt h
      · exact this.1 h
      · exact this.2 h
  have loop : ∀ m i : Nat, i + m = l.length → ∀ M1 ts1 tp1 cap1 tl (fl : Bool), TLM M M1 tt ts tp cap ts1 tp1 cap1 tl → tlSrt tl → tl.length ≤ 100 + i → (l.drop i).foldl (evStep day) (tl, fl) = evFold day tl0 l → Rr (q_C (d + 3)) mX1_parentOn (5, [some (qr t), some (qi day), some (qr tt), some (qi (if fl = true then 1 else 0)), some (qi i)], [], M1) P := by
    intro m
    induction m with
    | zero =>
      intro i hi M1 ts1 tp1 cap1 tl fl hm hs1 hl1 hf
      have hT1 := hT0.fr hw hm.2.1 (hA t (by simp)) (hA s (by simp)) (hA p (by simp)) (hA r (by simp))
      have e : i = l.length := by omega
      subst e
      rw [List.drop_length] at hf
      have hf' : (tl, fl) = evFold day tl0 l := hf
      have hP' := hP M1 ts1 tp1 cap1 (by rw [← hf']; exact hm)
      rw [← hf'] at hP'
      simp (disch := first | assumption | omega | (simp only [q_kd_wr, q_fv_wrE, q_top_wr, q_nc_wr, q_ns_wr, q_gs_wr, q_kd_al, q_fv_al, q_top_al, q_nc_al, q_ns_al, q_gs_al, q_kd_cp, q_fv_cpE, q_top_cp, q_nc_cp, q_ns_cp, q_gs_cp]; first | done | assumption | omega)) only [kX1_parentOn_5, kX1_parentOn_7, q_cut_i, q_cut_r, q_cut_l, q_cut_n, if_pos, if_neg]
      refine kX1_parentOn_8 hT1.1 (M1 := M1) (v := qi (min l.length 24 : Nat)) (q_Tx (sX1_kept hT1 ⟨rfl, rfl⟩)) (Nat.le_of_ble_eq_true rfl) ?_
      simp (disch := first | assumption | omega | (simp only [q_kd_wr, q_fv_wrE, q_top_wr, q_nc_wr, q_ns_wr, q_gs_wr, q_kd_al, q_fv_al, q_top_al, q_nc_al, q_ns_al, q_gs_al, q_kd_cp, q_fv_cpE, q_top_cp, q_nc_cp, q_ns_cp, q_gs_cp]; first | done | assumption | omega)) only [kX1_parentOn_11, kX1_parentOn_14, kX1_parentOn_15, kX1_parentOn_18, kX1_parentOn_20, kX1_parentOn_21, kX1_parentOn_72, kX1_parentOn_73, kX1_parentOn_76, kX1_parentOn_78, kX1_parentOn_79, kX1_parentOn_80, kX1_parentOn_83, kX1_parentOn_84, kX1_parentOn_87, kX1_parentOn_88, kX1_parentOn_89, kX1_parentOn_90, kX1_parentOn_91, kX1_parentOn_94, kX1_parentOn_96, kX1_parentOn_97, kX1_parentOn_98, kX1_parentOn_101, kX1_parentOn_103, kX1_parentOn_107, kX1_parentOn_110, kX1_parentOn_111, kX1_parentOn_112, kX1_parentOn_115, kX1_parentOn_117, kX1_parentOn_118, kX1_parentOn_119, kX1_parentOn_122, kX1_parentOn_124, kX1_parentOn_128, kX1_parentOn_131, kX1_parentOn_132, kX1_parentOn_133, kX1_parentOn_136, kX1_parentOn_138, kX1_parentOn_139, kX1_parentOn_140, kX1_parentOn_141, kX1_parentOn_144, kX1_parentOn_146, kX1_parentOn_150, kX1_parentOn_151, kX1_parentOn_154, kX1_parentOn_156, kX1_parentOn_160, kX1_parentOn_163, kX1_parentOn_164, kX1_parentOn_167, kX1_parentOn_168, kX1_parentOn_169, kX1_parentOn_172, kX1_parentOn_174, kX1_parentOn_175, kX1_parentOn_178, kX1_parentOn_179, kX1_parentOn_182, kX1_parentOn_183, kX1_parentOn_184, kX1_parentOn_187, kX1_parentOn_190, kX1_parentOn_193, q_cut_i, q_cut_r, q_cut_l, q_cut_n, if_pos, if_neg]
      cases fl with
      | true =>
        simp only [if_true] at hP' ⊢
        rw [kX1_parentOn_194 (by omega) (by omega), if_neg (by omega)]
        simp (disch := first | assumption | omega | (simp only [q_kd_wr, q_fv_wrE, q_top_wr, q_nc_wr, q_ns_wr, q_gs_wr, q_kd_al, q_fv_al, q_top_al, q_nc_al, q_ns_al, q_gs_al, q_kd_cp, q_fv_cpE, q_top_cp, q_nc_cp, q_ns_cp, q_gs_cp]; first | done | assumption | omega)) only [kX1_parentOn_197, kX1_parentOn_198, q_cut_i, q_cut_r, q_cut_l, q_cut_n, if_pos, if_neg]
        refine kX1_parentOn_199 hm.1.1 (M1 := M1) (v := qi (tlAt tl day)) (q_Tx (sX9_at hm.1 hday.1 hday.2 ⟨rfl, rfl⟩)) (Nat.le_of_ble_eq_true rfl) ?_
        simp (disch := first | assumption | omega | (simp only [q_kd_wr, q_fv_wrE, q_top_wr, q_nc_wr, q_ns_wr, q_gs_wr, q_kd_al, q_fv_al, q_top_al, q_nc_al, q_ns_al, q_gs_al, q_kd_cp, q_fv_cpE, q_top_cp, q_nc_cp, q_ns_cp, q_gs_cp]; first | done | assumption | omega)) only [kX1_parentOn_202, kX1_parentOn_205, kX1_parentOn_207, q_cut_i, q_cut_r, q_cut_l, q_cut_n, if_pos, if_neg]
        exact hP'
      | false =>
        simp only [if_false, Bool.false_eq_true] at hP' ⊢
        rw [kX1_parentOn_194 (by omega) (by omega), if_pos rfl]
        simp (disch := first | assumption | omega | (simp only [q_kd_wr, q_fv_wrE, q_top_wr, q_nc_wr, q_ns_wr, q_gs_wr, q_kd_al, q_fv_al, q_top_al, q_nc_al, q_ns_al, q_gs_al, q_kd_cp, q_fv_cpE, q_top_cp, q_nc_cp, q_ns_cp, q_gs_cp]; first | done | assumption | omega)) only [kX1_parentOn_205, kX1_parentOn_207, q_cut_i, q_cut_r, q_cut_l, q_cut_n, if_pos, if_neg]
        exact hP'
    | succ m ih =>
      intro i hi M1 ts1 tp1 cap1 tl fl hm hs1 hl1 hf
      have hT1 := hT0.fr hw hm.2.1 (hA t (by simp)) (hA s (by simp)) (hA p (by simp)) (hA r (by simp))
      have hw1 := hm.2.2.1
      have hT := hT1
      have hTL := hm.1
      rw [List.drop_eq_getElem_cons (by omega), List.foldl_cons] at hf
      have hst2 := evStep_srt (day := day) (st := (tl, fl)) (e := l[i]) hs1
      have hl2 : (evStep day (tl, fl) l[i]).1.length ≤ tl.length + 1 := hst2.2
      have nx : ∀ M2 ts2 tp2 cap2 tl2 (fl2 : Bool), evStep day (tl, fl) l[i] = (tl2, fl2) → TLM M1 M2 tt ts1 tp1 cap1 ts2 tp2 cap2 tl2 → Rr (q_C (d + 3)) mX1_parentOn (187, [some (qr t), some (qi day), some (qr tt), some (qi (if fl2 = true then 1 else 0)), some (qi i)], [], M2) P := by
        intro M2 ts2 tp2 cap2 tl2 fl2 he2 hm2
        rw [he2] at hf hst2 hl2
        have := ih (i + 1) (by omega) M2 ts2 tp2 cap2 tl2 fl2 (hm.st hm2) hst2.1 (by simp only at hl2; omega) hf
        simp (disch := first | assumption | omega | (simp only [q_kd_wr, q_fv_wrE, q_top_wr, q_nc_wr, q_ns_wr, q_gs_wr, q_kd_al, q_fv_al, q_top_al, q_nc_al, q_ns_al, q_gs_al, q_kd_cp, q_fv_cpE, q_top_cp, q_nc_cp, q_ns_cp, q_gs_cp]; first | done | assumption | omega)) only [kX1_parentOn_187, kX1_parentOn_190, q_cut_i, q_cut_r, q_cut_l, q_cut_n, if_pos, if_neg]
        exact this
      have same : TLM M1 M1 tt ts1 tp1 cap1 ts1 tp1 cap1 tl := ⟨hm.1, q_fr.rf, hw1, q_gr.rf q_qt.rf, Or.inl rfl, Or.inl rfl⟩
      obtain ⟨kt, f0, f1, f2, f3, ks', kp', kr', nsp, nsr, npr, hl, he, hb, hz⟩ := hT
      have ks : (q_kd _ s).1 = 2 := congrArg Prod.fst ks'
      have ks2 : (q_kd _ s).2 = 24 := congrArg Prod.snd ks'
      have kp : (q_kd _ p).1 = 2 := congrArg Prod.fst kp'
      have kp2 : (q_kd _ p).2 = 24 := congrArg Prod.snd kp'
      have kr : (q_kd _ r).1 = 2 := congrArg Prod.fst kr'
      have kr2 : (q_kd _ r).2 = 24 := congrArg Prod.snd kr'
      have ts := q_neK kt ks' (by simp)
      have tp := q_neK kt kp' (by simp)
      have tr := q_neK kt kr' (by simp)
      obtain ⟨e1, e2, e3⟩ := he i (by omega) (by omega)
      obtain ⟨b1, b2, b3, b4, b5, b6⟩ := hb i (by omega)
      rw [kX1_parentOn_5]
      simp (disch := first | assumption | omega | (simp only [q_kd_wr, q_fv_wrE, q_top_wr, q_nc_wr, q_ns_wr, q_gs_wr, q_kd_al, q_fv_al, q_top_al, q_nc_al, q_ns_al, q_gs_al, q_kd_cp, q_fv_cpE, q_top_cp, q_nc_cp, q_ns_cp, q_gs_cp]; first | done | assumption | omega)) only [kX1_parentOn_7, q_cut_i, q_cut_r, q_cut_l, q_cut_n, if_pos, if_neg]
      refine kX1_parentOn_8 kt (M1 := M1) (v := qi (min l.length 24 : Nat)) (q_Tx (sX1_kept hT1 ⟨rfl, rfl⟩)) (Nat.le_of_ble_eq_true rfl) ?_
      simp (disch := first | assumption | omega | (simp only [q_kd_wr, q_fv_wrE, q_top_wr, q_nc_wr, q_ns_wr, q_gs_wr, q_kd_al, q_fv_al, q_top_al, q_nc_al, q_ns_al, q_gs_al, q_kd_cp, q_fv_cpE, q_top_cp, q_nc_cp, q_ns_cp, q_gs_cp]; first | done | assumption | omega)) only [kX1_parentOn_11, kX1_parentOn_14, kX1_parentOn_15, kX1_parentOn_18, kX1_parentOn_20, q_cut_i, q_cut_r, q_cut_l, q_cut_n, if_pos, if_neg, f0, f1, f2, q_toN, ks2, kp2, kr2, e1, e2, e3]
      rw [kX1_parentOn_21 (by omega) (by omega)]
      by_cases c0 : l[i].2.1 = 0
      · rw [if_pos c0]
        have hE : evStep day (tl, fl) l[i] = ([(l[i].1, l[i].2.2)], decide (l[i].1 ≤ day)) := by rw [evStep, if_pos c0]
        obtain ⟨r', M2, hc, hr, g⟩ := sX9_begin (d := d + 2) (P := fun r M' => r = none ∧ TLM M1 M' tt ts1 tp1 cap1 ts1 tp1 cap1 [(l[i].1, l[i].2.2)]) hTL ⟨b1, b2⟩ ⟨b5, b6⟩ (fun M' a b c => ⟨rfl, a, b, hw1.qt c, q_gr.rf c, Or.inl rfl, Or.inl rfl⟩)
        subst hr
        have hn := nx M2 ts1 tp1 cap1 _ _ hE g
        by_cases hd : l[i].1 ≤ day
        · simp (disch := first | assumption | omega | (simp only [q_kd_wr, q_fv_wrE, q_top_wr, q_nc_wr, q_ns_wr, q_gs_wr, q_kd_al, q_fv_al, q_top_al, q_nc_al, q_ns_al, q_gs_al, q_kd_cp, q_fv_cpE, q_top_cp, q_nc_cp, q_ns_cp, q_gs_cp]; first | done | assumption | omega)) only [kX1_parentOn_72, kX1_parentOn_73, kX1_parentOn_76, kX1_parentOn_78, kX1_parentOn_79, kX1_parentOn_80, kX1_parentOn_83, kX1_parentOn_84, kX1_parentOn_87, kX1_parentOn_88, kX1_parentOn_89, kX1_parentOn_90, kX1_parentOn_91, kX1_parentOn_94, kX1_parentOn_96, kX1_parentOn_97, kX1_parentOn_98, kX1_parentOn_101, kX1_parentOn_103, q_cut_i, q_cut_r, q_cut_l, q_cut_n, if_pos, if_neg, f0, f1, f2, q_toN, ks2, kp2, kr2, e1, e2, e3]
          refine kX1_parentOn_104 hTL.1 hc (Nat.le_of_ble_eq_true rfl) ?_
          simp (disch := first | assumption | omega | (simp only [q_kd_wr, q_fv_wrE, q_top_wr, q_nc_wr, q_ns_wr, q_gs_wr, q_kd_al, q_fv_al, q_top_al, q_nc_al, q_ns_al, q_gs_al, q_kd_cp, q_fv_cpE, q_top_cp, q_nc_cp, q_ns_cp, q_gs_cp]; first | done | assumption | omega)) only [kX1_parentOn_107]
          rw [decide_eq_true hd] at hn
          exact hn
        · simp (disch := first | assumption | omega | (simp only [q_kd_wr, q_fv_wrE, q_top_wr, q_nc_wr, q_ns_wr, q_gs_wr, q_kd_al, q_fv_al, q_top_al, q_nc_al, q_ns_al, q_gs_al, q_kd_cp, q_fv_cpE, q_top_cp, q_nc_cp, q_ns_cp, q_gs_cp]; first | done | assumption | omega)) only [kX1_parentOn_72, kX1_parentOn_73, kX1_parentOn_76, kX1_parentOn_78, kX1_parentOn_79, kX1_parentOn_80, kX1_parentOn_83, kX1_parentOn_84, kX1_parentOn_87, kX1_parentOn_88, kX1_parentOn_89, kX1_parentOn_90, kX1_parentOn_91, kX1_parentOn_94, kX1_parentOn_96, kX1_parentOn_97, kX1_parentOn_98, kX1_parentOn_101, kX1_parentOn_103, q_cut_i, q_cut_r, q_cut_l, q_cut_n, if_pos, if_neg, f0, f1, f2, q_toN, ks2, kp2, kr2, e1, e2, e3]
          refine kX1_parentOn_104 hTL.1 hc (Nat.le_of_ble_eq_true rfl) ?_
          simp (disch := first | assumption | omega | (simp only [q_kd_wr, q_fv_wrE, q_top_wr, q_nc_wr, q_ns_wr, q_gs_wr, q_kd_al, q_fv_al, q_top_al, q_nc_al, q_ns_al, q_gs_al, q_kd_cp, q_fv_cpE, q_top_cp, q_nc_cp, q_ns_cp, q_gs_cp]; first | done | assumption | omega)) only [kX1_parentOn_107]
          rw [decide_eq_false hd] at hn
          exact hn
      by_cases c2 : l[i].2.1 = 2
      · have hE : evStep day (tl, fl) l[i] = (tlPut tl l[i].1 l[i].2.2, fl) := by rw [evStep, if_neg c0, if_pos c2]
        obtain ⟨r', M2, hc, hr, ts2, tp2, cap2, g⟩ := sX9_put (d := d) (P := fun r M' => r = none ∧ ∃ ts2 tp2 cap2, TLM M1 M' tt ts1 tp1 cap1 ts2 tp2 cap2 (tlPut tl l[i].1 l[i].2.2)) hTL hw1 (by omega) ⟨b1, b2⟩ ⟨b5, b6⟩ (fun M' s' p' cap' a b c d' e f => ⟨rfl, s', p', cap', a, b, c, d', e, f⟩)
        subst hr
        have hn := nx M2 ts2 tp2 cap2 _ _ hE g
        simp (disch := first | assumption | omega | (simp only [q_kd_wr, q_fv_wrE, q_top_wr, q_nc_wr, q_ns_wr, q_gs_wr, q_kd_al, q_fv_al, q_top_al, q_nc_al, q_ns_al, q_gs_al, q_kd_cp, q_fv_cpE, q_top_cp, q_nc_cp, q_ns_cp, q_gs_cp]; first | done | assumption | omega)) only [if_pos, if_neg]
        simp (disch := first | assumption | omega | (simp only [q_kd_wr, q_fv_wrE, q_top_wr, q_nc_wr, q_ns_wr, q_gs_wr, q_kd_al, q_fv_al, q_top_al, q_nc_al, q_ns_al, q_gs_al, q_kd_cp, q_fv_cpE, q_top_cp, q_nc_cp, q_ns_cp, q_gs_cp]; first | done | assumption | omega)) only [kX1_parentOn_110, kX1_parentOn_111, kX1_parentOn_112, kX1_parentOn_115, kX1_parentOn_117, kX1_parentOn_118, kX1_parentOn_119, kX1_parentOn_122, kX1_parentOn_124, q_cut_i, q_cut_r, q_cut_l, q_cut_n, if_pos, if_neg, f0, f1, f2, q_toN, ks2, kp2, kr2, e1, e2, e3]
        refine kX1_parentOn_125 hTL.1 hc (Nat.le_of_ble_eq_true rfl) ?_
        simp (disch := first | assumption | omega | (simp only [q_kd_wr, q_fv_wrE, q_top_wr, q_nc_wr, q_ns_wr, q_gs_wr, q_kd_al, q_fv_al, q_top_al, q_nc_al, q_ns_al, q_gs_al, q_kd_cp, q_fv_cpE, q_top_cp, q_nc_cp, q_ns_cp, q_gs_cp]; first | done | assumption | omega)) only [kX1_parentOn_128]
        exact hn
      by_cases c8 : l[i].2.1 = 8
      · have hE : evStep day (tl, fl) l[i] = (tlRep l[i].1 (tlAt tl l[i].1) l[i].2.2 tl, fl) := by rw [evStep, if_neg c0, if_neg c2, if_pos c8]
        have hold : -2147483648 ≤ tlAt tl l[i].1 ∧ tlAt tl l[i].1 < 2147483648 := tlAt_R hTL l[i].1
        obtain ⟨r', M2, hc, hr, ts2, tp2, cap2, g⟩ := sX9_replace (d := d) (P := fun r M' => r = none ∧ ∃ ts2 tp2 cap2, TLM M1 M' tt ts1 tp1 cap1 ts2 tp2 cap2 (tlRep l[i].1 (tlAt tl l[i].1) l[i].2.2 tl)) hTL hw1 (by omega) ⟨b1, b2⟩ ⟨b5, b6⟩ hold (fun M' s' p' cap' a b c d' e f => ⟨rfl, s', p', cap', a, b, c, d', e, f⟩)
        subst hr
        have hn := nx M2 ts2 tp2 cap2 _ _ hE g
        simp (disch := first | assumption | omega | (simp only [q_kd_wr, q_fv_wrE, q_top_wr, q_nc_wr, q_ns_wr, q_gs_wr, q_kd_al, q_fv_al, q_top_al, q_nc_al, q_ns_al, q_gs_al, q_kd_cp, q_fv_cpE, q_top_cp, q_nc_cp, q_ns_cp, q_gs_cp]; first | done | assumption | omega)) only [if_pos, if_neg]
        simp (disch := first | assumption | omega | (simp only [q_kd_wr, q_fv_wrE, q_top_wr, q_nc_wr, q_ns_wr, q_gs_wr, q_kd_al, q_fv_al, q_top_al, q_nc_al, q_ns_al, q_gs_al, q_kd_cp, q_fv_cpE, q_top_cp, q_nc_cp, q_ns_cp, q_gs_cp]; first | done | assumption | omega)) only [kX1_parentOn_131, kX1_parentOn_132, kX1_parentOn_133, kX1_parentOn_136, kX1_parentOn_138, kX1_parentOn_139, kX1_parentOn_140, kX1_parentOn_141, kX1_parentOn_144, kX1_parentOn_146, q_cut_i, q_cut_r, q_cut_l, q_cut_n, if_pos, if_neg, f0, f1, f2, q_toN, ks2, kp2, kr2, e1, e2, e3]
        refine kX1_parentOn_147 hTL.1 (M1 := M1) (v := qi (tlAt tl l[i].1)) (q_Tx (sX9_at hTL (by omega) (by omega) ⟨rfl, rfl⟩)) (Nat.le_of_ble_eq_true rfl) ?_
        simp (disch := first | assumption | omega | (simp only [q_kd_wr, q_fv_wrE, q_top_wr, q_nc_wr, q_ns_wr, q_gs_wr, q_kd_al, q_fv_al, q_top_al, q_nc_al, q_ns_al, q_gs_al, q_kd_cp, q_fv_cpE, q_top_cp, q_nc_cp, q_ns_cp, q_gs_cp]; first | done | assumption | omega)) only [kX1_parentOn_150, kX1_parentOn_151, kX1_parentOn_154, kX1_parentOn_156, q_cut_i, q_cut_r, q_cut_l, q_cut_n, if_pos, if_neg, f0, f1, f2, q_toN, ks2, kp2, kr2, e1, e2, e3]
        refine kX1_parentOn_157 hTL.1 hc (Nat.le_of_ble_eq_true rfl) ?_
        simp (disch := first | assumption | omega | (simp only [q_kd_wr, q_fv_wrE, q_top_wr, q_nc_wr, q_ns_wr, q_gs_wr, q_kd_al, q_fv_al, q_top_al, q_nc_al, q_ns_al, q_gs_al, q_kd_cp, q_fv_cpE, q_top_cp, q_nc_cp, q_ns_cp, q_gs_cp]; first | done | assumption | omega)) only [kX1_parentOn_160]
        exact hn
      by_cases c34 : l[i].2.1 = 3 ∨ l[i].2.1 = 4
      · have hE : evStep day (tl, fl) l[i] = (tl, fl && decide (day < l[i].1)) := by rw [evStep, if_neg c0, if_neg c2, if_neg c8, if_pos c34]
        have hn := nx M1 ts1 tp1 cap1 _ _ hE same
        suffices h163 : Rr (q_C (d + 3)) mX1_parentOn (163, [some (qr t), some (qi day), some (qr tt), some (qi (if fl = true then 1 else 0)), some (qi i)], [], M1) P by
          rcases c34 with c | c
          · simp (disch := first | assumption | omega | (simp only [q_kd_wr, q_fv_wrE, q_top_wr, q_nc_wr, q_ns_wr, q_gs_wr, q_kd_al, q_fv_al, q_top_al, q_nc_al, q_ns_al, q_gs_al, q_kd_cp, q_fv_cpE, q_top_cp, q_nc_cp, q_ns_cp, q_gs_cp]; first | done | assumption | omega)) only [if_pos, if_neg]; exact h163
          · simp (disch := first | assumption | omega | (simp only [q_kd_wr, q_fv_wrE, q_top_wr, q_nc_wr, q_ns_wr, q_gs_wr, q_kd_al, q_fv_al, q_top_al, q_nc_al, q_ns_al, q_gs_al, q_kd_cp, q_fv_cpE, q_top_cp, q_nc_cp, q_ns_cp, q_gs_cp]; first | done | assumption | omega)) only [if_pos, if_neg]; exact h163
        cases fl with
        | true =>
          rw [Bool.true_and] at hn
          simp only [if_true] at hn ⊢
          simp (disch := first | assumption | omega | (simp only [q_kd_wr, q_fv_wrE, q_top_wr, q_nc_wr, q_ns_wr, q_gs_wr, q_kd_al, q_fv_al, q_top_al, q_nc_al, q_ns_al, q_gs_al, q_kd_cp, q_fv_cpE, q_top_cp, q_nc_cp, q_ns_cp, q_gs_cp]; first | done | assumption | omega)) only [kX1_parentOn_163]
          rw [kX1_parentOn_164 (by omega) (by omega), if_neg (by omega)]
          by_cases hd : day < l[i].1
          · rw [decide_eq_true hd] at hn
            simp (disch := first | assumption | omega | (simp only [q_kd_wr, q_fv_wrE, q_top_wr, q_nc_wr, q_ns_wr, q_gs_wr, q_kd_al, q_fv_al, q_top_al, q_nc_al, q_ns_al, q_gs_al, q_kd_cp, q_fv_cpE, q_top_cp, q_nc_cp, q_ns_cp, q_gs_cp]; first | done | assumption | omega)) only [kX1_parentOn_167, kX1_parentOn_168, kX1_parentOn_169, kX1_parentOn_172, kX1_parentOn_174, kX1_parentOn_175, kX1_parentOn_178, kX1_parentOn_179, kX1_parentOn_182, kX1_parentOn_183, kX1_parentOn_184, q_cut_i, q_cut_r, q_cut_l, q_cut_n, if_pos, if_neg, f0, f1, f2, q_toN, ks2, kp2, kr2, e1, e2, e3]
            exact hn
          · rw [decide_eq_false hd] at hn
            simp (disch := first | assumption | omega | (simp only [q_kd_wr, q_fv_wrE, q_top_wr, q_nc_wr, q_ns_wr, q_gs_wr, q_kd_al, q_fv_al, q_top_al, q_nc_al, q_ns_al, q_gs_al, q_kd_cp, q_fv_cpE, q_top_cp, q_nc_cp, q_ns_cp, q_gs_cp]; first | done | assumption | omega)) only [kX1_parentOn_167, kX1_parentOn_168, kX1_parentOn_169, kX1_parentOn_172, kX1_parentOn_174, kX1_parentOn_175, kX1_parentOn_178, kX1_parentOn_179, kX1_parentOn_182, kX1_parentOn_183, kX1_parentOn_184, q_cut_i, q_cut_r, q_cut_l, q_cut_n, if_pos, if_neg, f0, f1, f2, q_toN, ks2, kp2, kr2, e1, e2, e3]
            exact hn
        | false =>
          rw [Bool.false_and] at hn
          simp only [if_false, Bool.false_eq_true] at hn ⊢
          simp (disch := first | assumption | omega | (simp only [q_kd_wr, q_fv_wrE, q_top_wr, q_nc_wr, q_ns_wr, q_gs_wr, q_kd_al, q_fv_al, q_top_al, q_nc_al, q_ns_al, q_gs_al, q_kd_cp, q_fv_cpE, q_top_cp, q_nc_cp, q_ns_cp, q_gs_cp]; first | done | assumption | omega)) only [kX1_parentOn_163]
          rw [kX1_parentOn_164 (by omega) (by omega), if_pos rfl]
          simp (disch := first | assumption | omega | (simp only [q_kd_wr, q_fv_wrE, q_top_wr, q_nc_wr, q_ns_wr, q_gs_wr, q_kd_al, q_fv_al, q_top_al, q_nc_al, q_ns_al, q_gs_al, q_kd_cp, q_fv_cpE, q_top_cp, q_nc_cp, q_ns_cp, q_gs_cp]; first | done | assumption | omega)) only [kX1_parentOn_182, kX1_parentOn_183, kX1_parentOn_184, q_cut_i, q_cut_r, q_cut_l, q_cut_n, if_pos, if_neg]
          exact hn
      · have hE : evStep day (tl, fl) l[i] = (tl, fl) := by rw [evStep, if_neg c0, if_neg c2, if_neg c8, if_neg c34]
        have hn := nx M1 ts1 tp1 cap1 _ _ hE same
        rw [if_neg c0]
        by_cases c1 : l[i].2.1 = 1
        · rw [if_pos c1]; exact hn
        rw [if_neg c1, if_neg c2, if_neg (by omega), if_neg (by omega)]
        by_cases c5 : l[i].2.1 = 5
        · rw [if_pos c5]; exact hn
        by_cases c6 : l[i].2.1 = 6
        · rw [if_neg c5, if_pos c6]; exact hn
        by_cases c7 : l[i].2.1 = 7
        · rw [if_neg c5, if_neg c6, if_pos c7]; exact hn
        rw [if_neg c5, if_neg c6, if_neg c7, if_neg c8]
        exact hn
  rw [eX1_parentOn]
  simp (disch := first | assumption | omega | (simp only [q_kd_wr, q_fv_wrE, q_top_wr, q_nc_wr, q_ns_wr, q_gs_wr, q_kd_al, q_fv_al, q_top_al, q_nc_al, q_ns_al, q_gs_al, q_kd_cp, q_fv_cpE, q_top_cp, q_nc_cp, q_ns_cp, q_gs_cp]; first | done | assumption | omega)) only [kX1_parentOn_0, kX1_parentOn_1, kX1_parentOn_2, kX1_parentOn_3, q_cut_i, q_cut_r, q_cut_l, q_cut_n, if_pos, if_neg]
  exact loop l.length 0 (by omega) M ts tp cap tl0 false ⟨hL, q_fr.rf, hw, q_gr.rf q_qt.rf, Or.inl rfl, Or.inl rfl⟩ hst (by omega) rfl
/-! Tape, made -/
theorem sX8_init {d : Nat} {M : QM} {t : Nat} (hk : q_kd M t = (1, 8)) (hw : q_wf M) {P : QP} (hP : ∀ M', TP M' t (q_top M) [] → q_fr (fun a => a = t) M M' → q_wf M' → q_top M' = q_top M + 1 → q_ct M M' 1 80 → P none M') : q_T (d + 1) iX8_init [qr t] M P := by
  have ht := hw.lt (a := t) (by rw [hk]; simp)
  have h2 : t ≠ q_top M := by omega
  rw [eX8_init, kX8_init_0, kX8_init_1 (Nat.le_of_ble_eq_true rfl)]
  simp (disch := first | assumption | omega | (simp only [q_kd_wr, q_fv_wrE, q_top_wr, q_nc_wr, q_ns_wr, q_gs_wr, q_kd_al, q_fv_al, q_top_al, q_nc_al, q_ns_al, q_gs_al, q_kd_cp, q_fv_cpE, q_top_cp, q_nc_cp, q_ns_cp, q_gs_cp]; first | done | assumption | omega)) only [kX8_init_4, kX8_init_5, q_cut_i, q_cut_r, q_cut_l, q_cut_n, if_pos, if_neg]
  rw [kX8_init_7 (by omega) (by omega)]
  have hk1 : q_kd (q_al M (2, (80 : Int).toNat) (80 : Int).toNat (fun _ => qi 0)) t = (1, 8) := by rw [q_kd_al, if_neg h2]; exact hk
  rw [kX8_init_9 hk1]
  simp (disch := first | assumption | omega | (simp only [q_kd_wr, q_fv_wrE, q_top_wr, q_nc_wr, q_ns_wr, q_gs_wr, q_kd_al, q_fv_al, q_top_al, q_nc_al, q_ns_al, q_gs_al, q_kd_cp, q_fv_cpE, q_top_cp, q_nc_cp, q_ns_cp, q_gs_cp]; first | done | assumption | omega)) only [kX8_init_12, kX8_init_13, q_cut_i, q_cut_r, q_cut_l, q_cut_n, if_pos, if_neg]
  rw [kX8_init_14 (by rw [q_kd_wr]; exact hk1), kX8_init_17]
  refine hP _ ?_ ?_ ?_ ?_ ?_
  rotate_left 3
  · rfl
  · exact ⟨rfl, rfl⟩
  refine ⟨?_, ?_, ?_, ?_, by simp, by simp, ?_⟩
  · exact hk1
  · simp [q_fv_wrE]
  · simp [q_fv_wrE]
  · rw [q_kd_wr, q_kd_wr, q_kd_al, if_pos rfl]; rfl
  · intro i hi
    rw [q_fv_wrE, if_neg (fun q => h2 q.1.symm), q_fv_wrE, if_neg (fun q => h2 q.1.symm), q_fv_al, if_pos rfl]
    exact ⟨0, rfl⟩
  · exact (q_fr.al (A := fun a => a = t)).tr ((q_fr.wr (A := fun a => a = t) rfl).tr (q_fr.wr (A := fun a => a = t) rfl))
  · exact hw.al.wr.wr
