
/-! the world: split and merge -/
def wS (s : Nat) : Prop := s = 16 ∨ 24 ≤ s
theorem row_w {i s : Nat} (h : rowS i s) : 24 ≤ s := by unfold rowS at h; omega
def cs (f : Nat → Nat) : Nat → Nat
  | 0 => 0
  | k + 1 => cs f k + f k
theorem cs_up {f : Nat → Nat} {i v : Nat} : ∀ k : Nat, cs (upF f i v) k + (if i < k then f i else 0) = cs f k + (if i < k then v else 0)
  | 0 => by simp [cs]
  | k + 1 => by
    have ih := cs_up (f := f) (i := i) (v := v) k
    rw [cs, cs]
    by_cases e : k = i
    · subst e
      rw [upF_s]
      rw [if_neg (by omega), if_neg (by omega)] at ih
      rw [if_pos (by omega), if_pos (by omega)]
      omega
    · rw [upF_o e]
      by_cases g : i < k
      · rw [if_pos g, if_pos g] at ih
        rw [if_pos (by omega), if_pos (by omega)]
        omega
      · rw [if_neg g, if_neg g] at ih
        rw [if_neg (by omega), if_neg (by omega)]
        omega
def gW (M M' : QM) (cN cT cN' cT' : Nat → Nat) : Prop := q_gr M M' (cs cN 20 + cs cT 20) (cs cN' 20 + cs cT' 20)
theorem gW.tr {M M1 M2 : QM} {cN cT cN' cT' cN2 cT2 : Nat → Nat} (h1 : gW M M1 cN cT cN' cT') (h2 : gW M1 M2 cN' cT' cN2 cT2) : gW M M2 cN cT cN2 cT2 := q_gr.tr h1 h2
theorem gW.qt {M M1 : QM} {cN cT : Nat → Nat} (h : q_qt M M1) : gW M M1 cN cT cN cT := q_gr.rf h
theorem gW.N {M M1 : QM} {cN cT : Nat → Nat} {i v : Nat} (hi : i < 20) (h : q_gr M M1 (cN i) v) : gW M M1 cN cT (upF cN i v) cT := by
  have e := cs_up (f := cN) (i := i) (v := v) 20
  rw [if_pos hi, if_pos hi] at e
  obtain ⟨h1, h2, h3⟩ := h
  refine ⟨?_, ?_, ?_⟩ <;> omega
theorem gW.T {M M1 : QM} {cN cT : Nat → Nat} {i v : Nat} (hi : i < 20) (h : q_gr M M1 (cT i) v) : gW M M1 cN cT cN (upF cT i v) := by
  have e := cs_up (f := cT) (i := i) (v := v) 20
  rw [if_pos hi, if_pos hi] at e
  obtain ⟨h1, h2, h3⟩ := h
  refine ⟨?_, ?_, ?_⟩ <;> omega
theorem upF_up {β : Type} {f : Nat → β} {i : Nat} {v w : β} : upF (upF f i v) i w = upF f i w := by
  funext j
  unfold upF
  split <;> rfl
theorem tlF_qb {x : Int} : ∀ (l : List (Int × Int)) (acc : Int), q_b acc → (∀ q ∈ l, q_b q.2) → q_b (tlF acc l x)
  | [], _, h, _ => h
  | q :: l, acc, h, hl => by
    rw [tlF_cons]
    refine tlF_qb l _ ?_ (fun r hr => hl r (List.mem_cons_of_mem _ hr))
    split
    · exact hl q List.mem_cons_self
    · exact h
theorem tlAt_qb {M : QM} {t s p cap : Nat} {l : List (Int × Int)} (hT : TL M t s p cap l) (x : Int) : q_b (tlAt l x) := tlF_qb l (-5) ⟨by omega, by omega⟩ (fun q hq => (TL_bd hT q hq).2)
section WM4
variable {M : QM} {g : Nat → Nat} {cN cT : Nat → Nat} {W : Nat → Pl} {n d : Nat} {mg sp : Int}
theorem wRem {i : Nat} {a b c : Int} (hg : gI M g) (hw : q_wf M) (h : WMm M g cN cT W n mg sp) (hi : i < 20) (hl : (plH (W i)).length < 100000) (ha : q_b a) (hb : q_b b) (hc : q_b c) : ∃ M', q_C (d + 2) iX4_remember [qr (gA g i 0), qi a, qi b, qi c] M none M' ∧ WMm M' g cN cT (upF W i (plRem (W i) a b c)) n mg sp ∧ GF (rowS i) M M' g g ∧ q_qt M M' := by
  obtain ⟨hA, hp⟩ := h.1.2.2.2.2.2 i hi
  obtain ⟨M1, c1, a1, f1, q1⟩ := vX4_remember (d := d) hg hw hi hp hl ha hb hc
  have hU := WMm_upd hg h hi f1 rfl a1
  rw [upF_id, upF_id] at hU
  exact ⟨M1, c1, hU, f1, q1⟩
theorem wHis {i : Nat} {a b c : Int} (hg : gI M g) (hw : q_wf M) (h : WMm M g cN cT W n mg sp) (hi : i < 20) (hl : (plH (W i)).length < 100000) (ha : q_b a) (hb : q_b b) (hc : q_b c) : ∃ M', q_C (d + 1) iX1_append [qr (gA g i 7), qi a, qi b, qi c] M none M' ∧ WMm M' g cN cT (upF W i (plHis (W i) (a, b, c))) n mg sp ∧ GF (rowS i) M M' g g ∧ q_qt M M' := by
  obtain ⟨hA, hp⟩ := h.1.2.2.2.2.2 i hi
  obtain ⟨M1, c1, a1, f1, q1⟩ := vX1_append (d := d) hg hw hi hp hl ha hb hc
  have hU := WMm_upd hg h hi f1 rfl a1
  rw [upF_id, upF_id] at hU
  exact ⟨M1, c1, hU, f1, q1⟩
theorem wSe {i : Nat} {v : Int} (hg : gI M g) (hw : q_wf M) (h : WMm M g cN cT W n mg sp) (hi : i < 20) (hv : q_b v) : WMm (q_wr M (gA g i 0) 2 (qi v)) g cN cT (upF W i (plSe (W i) v)) n mg sp ∧ GF (rowS i) M (q_wr M (gA g i 0) 2 (qi v)) g g := by
  obtain ⟨hA, hp⟩ := h.1.2.2.2.2.2 i hi
  have f1 := GF_set (k := 2) (v := qi v) hg hw hi
  have hU := WMm_upd hg h hi f1 rfl (PLr_setE hg hi hp hv)
  rw [upF_id, upF_id] at hU
  exact ⟨hU, f1⟩
theorem wSi {i : Nat} {v : Int} (hg : gI M g) (hw : q_wf M) (h : WMm M g cN cT W n mg sp) (hi : i < 20) (hv : q_b v) : WMm (q_wr M (gA g i 0) 3 (qi v)) g cN cT (upF W i (plSi (W i) v)) n mg sp ∧ GF (rowS i) M (q_wr M (gA g i 0) 3 (qi v)) g g := by
  obtain ⟨hA, hp⟩ := h.1.2.2.2.2.2 i hi
  have f1 := GF_set (k := 3) (v := qi v) hg hw hi
  have hU := WMm_upd hg h hi f1 rfl (PLr_setI hg hi hp hv)
  rw [upF_id, upF_id] at hU
  exact ⟨hU, f1⟩
theorem wRep {i : Nat} {y old v : Int} (hg : gI M g) (hw : q_wf M) (h : WMm M g cN cT W n mg sp) (hi : i < 20) (hl : (plT (W i)).length ≤ 1000) (hy : q_b y) (hv : q_b v) (ho : -2147483648 ≤ old ∧ old < 2147483648) : ∃ M' g' cT', q_C (d + 3) iX9_replace [qr (gA g i 4), qi y, qi old, qi v] M none M' ∧ WMm M' g' cN (upF cT i cT') (upF W i (plPar (W i) (tlRep y old v (plT (W i))))) n mg sp ∧ GF (rowS i) M M' g g' ∧ q_gr M M' (cT i) cT' ∧ (∀ k, k < 11 → k ≠ 5 → k ≠ 6 → gA g' i k = gA g i k) := by
  obtain ⟨hA, hp⟩ := h.1.2.2.2.2.2 i hi
  obtain ⟨M1, g1, cT1, c1, a1, f1, r1, e1⟩ := vX9_replace (d := d) hg hw hi hp hl hy hv ho
  have hU := WMm_upd hg h hi f1 (e1 0 (by omega) (by omega) (by omega)) a1
  rw [upF_id] at hU
  exact ⟨M1, g1, cT1, c1, hU, f1, r1, e1⟩
theorem wMg (hg : gI M g) (hw : q_wf M) (h : WMm M g cN cT W n mg sp) (mg' : Int) : WMm (q_wr M (g 16) 1 (qi mg')) g cN cT W n mg' sp ∧ GF (fun s => s = 16) M (q_wr M (g 16) 1 (qi mg')) g g := ⟨WMm_w hg h (by omega) (by omega) h.1.2.2.2.1 (q_fwo (by decide) h.1.2.2.1) q_fws (q_fwo (by decide) h.2.2.2), GF_wr hg hw (by omega) rfl⟩
theorem wSp (hg : gI M g) (hw : q_wf M) (h : WMm M g cN cT W n mg sp) (sp' : Int) : WMm (q_wr M (g 16) 2 (qi sp')) g cN cT W n mg sp' ∧ GF (fun s => s = 16) M (q_wr M (g 16) 2 (qi sp')) g g := ⟨WMm_w hg h (by omega) (by omega) h.1.2.2.2.1 (q_fwo (by decide) h.1.2.2.1) (q_fwo (by decide) h.2.2.1) q_fws, GF_wr hg hw (by omega) rfl⟩
def cSp (W : Nat → Pl) (n p : Nat) (y wd : Int) : Nat → Pl := upF (upF W n (plRem (plNew (plK (W p)) (tlAt (plT (W p)) y) y wd) y 5 p)) p (plRem (W p) y 7 n)
theorem vX11_splitOff {p : Nat} {y wd : Int} (hg : gI M g) (hw : q_wf M) (h : WMm M g cN cT W n mg sp) (hn : n < 20) (hpn : p < n) (hl : (plH (W p)).length < 90000) (hy : q_b y) (h0 : 0 ≤ wd) (h1 : wd < 2 ^ 40) (hs : -100000 ≤ sp ∧ sp ≤ 100000) : ∃ M', q_C (d + 4) iX11_splitOff [qr (g 16), qi p, qr (gA g p 0), qi y, ql wd] M (some (qi n)) M' ∧ WMm M' g cN cT (cSp W n p y wd) (n + 1) mg (sp + 1) ∧ GF wS M M' g g ∧ q_qt M M' := by
  obtain ⟨hA, hp⟩ := h.1.2.2.2.2.2 p (by omega)
  have hv := tlAt_qb hp.2.2.2.2.2.1 y
  have hv2 := tl32 hp y
  obtain ⟨M1, c1, a1, f1, q1⟩ := vX11_settle (d := d) (k := plK (W p)) (v := tlAt (plT (W p)) y) (y := y) (wd := wd) hg hw h hn (plK_b (PLr_ok hp)) hv hy h0 h1
  obtain ⟨M2, c2, a2, f2, q2⟩ := wRem (d := d + 1) (i := n) (a := y) (b := 5) (c := p) f1.2.2.2.1 f1.2.2.2.2 a1 hn (by rw [upF_s]; exact Nat.le_of_ble_eq_true rfl) hy ⟨by omega, by omega⟩ ⟨by omega, by omega⟩
  rw [upF_s, upF_up] at a2
  obtain ⟨M3, c3, a3, f3, q3⟩ := wRem (d := d + 1) (i := p) (a := y) (b := 7) (c := n) f2.2.2.2.1 f2.2.2.2.2 a2 (by omega) (by rw [upF_o (by omega)]; omega) hy ⟨by omega, by omega⟩ ⟨by omega, by omega⟩
  rw [upF_o (show p ≠ n by omega)] at a3
  have h4 := wSp f3.2.2.2.1 f3.2.2.2.2 a3 (sp + 1)
  refine ⟨_, C_of (fun P => ?_), h4.1, ((((f1.wk (fun s _ z => z.elim Or.inl (fun z => Or.inr (row_w z)))).tr (f2.wk (fun s _ z => Or.inr (row_w z)))).tr (f3.wk (fun s _ z => Or.inr (row_w z)))).tr (h4.2.wk (fun s _ z => Or.inl z))), ((q1.tr q2).tr q3).tr q_qt.wr⟩
  have hpy := fun z : QP => uX11_placeY (d := d + 2) (x := z) a1.1 (p := n) (by omega) (by omega)
  rw [q_toN] at hpy
  obtain ⟨y1, y2⟩ := hy
  have k2 : q_kd M2 (gA g p 0) = (1, 4) := PLr_0 (a2.1.2.2.2.2.2 p (by omega)).2
  have k1 : q_kd M1 (gA g n 0) = (1, 4) := PLr_0 (a1.1.2.2.2.2.2 n (by omega)).2
  have k3 : q_kd M3 (g 16) = (1, 11) := a3.1.1
  have s3 : q_fv M3 (g 16) 2 = qi sp := a3.2.2.2
  have kw := h.1.1
  have kw1 : q_kd M1 (g 16) = (1, 11) := a1.1.1
  have hk := plK_b (PLr_ok hp)
  rw [eX11_splitOff]
  simp (disch := first | assumption | exact PLr_0 hp | exact PLr_k1 hp | exact PLr_k4 hp | exact PLr_k7 hp | exact bI_lo | exact bI_hi | exact bI_01 | (show (List.map q_wd _).sum ≤ 8; with_unfolding_all exact Nat.le_of_ble_eq_true rfl) | omega) only [kX11_splitOff_0, kX11_splitOff_1, kX11_splitOff_2, kX11_splitOff_5, kX11_splitOff_6, kX11_splitOff_9, kX11_splitOff_10E, kX11_splitOff_13, kX11_splitOff_14, kX11_splitOff_16E, kX11_splitOff_19, kX11_splitOff_21, kX11_splitOff_22, kX11_splitOff_24E, kX11_splitOff_27, kX11_splitOff_29, kX11_splitOff_31r, kX11_splitOff_31n, kX11_splitOff_34, kX11_splitOff_36, kX11_splitOff_37, kX11_splitOff_39, kX11_splitOff_40, kX11_splitOff_41, kX11_splitOff_42E, kX11_splitOff_45, kX11_splitOff_46, kX11_splitOff_47, kX11_splitOff_49, kX11_splitOff_51E, kX11_splitOff_54, kX11_splitOff_55i, kX11_splitOff_55r, kX11_splitOff_56, kX11_splitOff_59, kX11_splitOff_60, kX11_splitOff_61, kX11_splitOff_64, kX11_splitOff_66, q_cut_i, q_cut_r, q_cut_l, q_cut_n, q_psh_n, q_psh_s, bI_eq0, ite_not, ↓if_pos, ↓if_neg, ↓ite_bI_t, ↓ite_bI_f, PLr_f0 hp, PLr_f7 hp, uX9_at hp, T_of c1, hpy, T_of c2, T_of c3, s3]
def tkP (p j : Nat) (y : Int) (q : Pl) : Pl := plHis (plPar q (tlRep y p j (plT q))) (tlFst p y (plEnd q) (plT q), 8, j)
def cTk (W : Nat → Pl) (p j : Nat) (y : Int) (a b : Nat) (X : Nat → Pl) : Nat → Pl := fun c => if a ≤ c ∧ c < b ∧ cPf W p y c = true then tkP p j y (W c) else X c
theorem cTk_e {W X : Nat → Pl} {p j : Nat} {y : Int} {n : Nat} : cTk W p j y n n X = X := by
  funext c
  unfold cTk
  rw [if_neg (by omega)]
theorem cTk_y {W X : Nat → Pl} {p j : Nat} {y : Int} {k n : Nat} (hk : k < n) (h : cPf W p y k = true) : cTk W p j y (k + 1) n (upF X k (tkP p j y (W k))) = cTk W p j y k n X := by
  funext c
  unfold cTk
  by_cases e : c = k
  · subst e
    rw [if_neg (by omega), upF_s, if_pos ⟨Nat.le_refl _, hk, h⟩]
  · rw [upF_o e]
    by_cases g : k + 1 ≤ c ∧ c < n ∧ cPf W p y c = true
    · rw [if_pos g, if_pos ⟨by omega, g.2⟩]
    · rw [if_neg g, if_neg (fun z => g ⟨by omega, z.2⟩)]
theorem cTk_n {W X : Nat → Pl} {p j : Nat} {y : Int} {k n : Nat} (h : ¬ cPf W p y k = true) : cTk W p j y (k + 1) n X = cTk W p j y k n X := by
  funext c
  unfold cTk
  by_cases g : k + 1 ≤ c ∧ c < n ∧ cPf W p y c = true
  · rw [if_pos g, if_pos ⟨by omega, g.2⟩]
  · rw [if_neg g, if_neg (fun z => g ⟨by have := z.1; by_cases e : c = k; exact absurd (e ▸ z.2.2) h; omega, z.2⟩)]
theorem takeLoop {p j : Nat} {y : Int} {ap aj : Nat} (hp20 : p < 20) (hj20 : j < 20) (hy : q_b y) {W2 : Nat → Pl} (hb : ∀ c, c < 20 → (plT (W2 c)).length ≤ 1000 ∧ (plH (W2 c)).length < 100000) : ∀ (m k : Nat) (M : QM) (g cT : Nat → Nat) (X : Nat → Pl), k + m = n → gI M g → q_wf M → WMm M g cN cT X n mg sp → (∀ c, k ≤ c → X c = W2 c) → ∃ M' g' cT', (∀ P l8 l9, Rr (q_C (d + 3)) mX11_takeIn (63, [some (qr (g 16)), some (qi p), some (qr ap), some (qi j), some (qi y), some (qr aj), some (qi (bCt (cPf W2 p y) k)), some (qi k), l8, l9], [], M) P = P (some (qi (bCt (cPf W2 p y) n))) M') ∧ WMm M' g' cN cT' (cTk W2 p j y k n X) n mg sp ∧ GF (fun s => 24 ≤ s) M M' g g' ∧ gW M M' cN cT cN cT' := by
  intro m
  induction m with
  | zero =>
    intro k M g cT X hk hg hw hW hX
    have e : k = n := by omega
    subst e
    refine ⟨M, g, cT, fun P l8 l9 => ?_, by rw [cTk_e]; exact hW, GF.rf hg hw, gW.qt ⟨fun _ => rfl, rfl, ⟨by omega, by omega⟩⟩⟩
    have kw := hW.1.1
    have fn := hW.1.2.2.1
    have h20 := hW.1.2.2.2.1
    have hc := bCt_le (cPf W2 p y) k
    rw [kX11_takeIn_63]
    simp (disch := first | assumption | exact bI_lo | exact bI_hi | exact bI_01 | (show (List.map q_wd _).sum ≤ 8; with_unfolding_all exact Nat.le_of_ble_eq_true rfl) | omega) only [kX11_takeIn_65, kX11_takeIn_66, kX11_takeIn_69, kX11_takeIn_72, kX11_takeIn_73, kX11_takeIn_76, kX11_takeIn_78, kX11_takeIn_79, kX11_takeIn_81, kX11_takeIn_83r, kX11_takeIn_83n, kX11_takeIn_86, kX11_takeIn_87, kX11_takeIn_90, kX11_takeIn_92, kX11_takeIn_93, kX11_takeIn_95E, kX11_takeIn_98, kX11_takeIn_100, kX11_takeIn_102, kX11_takeIn_105, kX11_takeIn_107, kX11_takeIn_110, kX11_takeIn_112, kX11_takeIn_113, kX11_takeIn_114E, kX11_takeIn_117, kX11_takeIn_119, kX11_takeIn_122, kX11_takeIn_124, kX11_takeIn_126, kX11_takeIn_127E, kX11_takeIn_130, kX11_takeIn_133, kX11_takeIn_136, kX11_takeIn_139, kX11_takeIn_141, q_cut_i, q_cut_r, q_cut_l, q_cut_n, q_psh_n, q_psh_s, bI_eq0, ite_not, ↓if_pos, ↓if_neg, ↓ite_bI_t, ↓ite_bI_f, fn]
  | succ m ih =>
    intro k M g cT X hk hg hw hW' hX
    have hW := hW'.1
    obtain ⟨kw, fpa, fn, hn20, kpa, hpl⟩ := id hW
    have kpa1 : (q_kd M (g 17)).1 = 5 ∨ (q_kd M (g 17)).1 = 6 := Or.inr (by rw [kpa])
    have kpa2 : ((q_kd M (g 17)).2 : Int) = 20 := by rw [kpa]; rfl
    have kpa3 : 2 ≤ (q_kd M (g 17)).1 := by rw [kpa]; decide
    have kpa4 : (q_kd M (g 17)).1 ≤ 9 := by rw [kpa]; decide
    have hk20 : k < 20 := by omega
    obtain ⟨hA, hp⟩ := hpl k hk20
    have eX := hX k (Nat.le_refl k)
    have hb' := hb k hk20
    have hc := bCt_le (cPf W2 p y) k
    have bF := tlFst_R (par := p) (y := y) (e := plEnd (W2 k)) hy (by rw [← eX]; exact plEnd_b (PLr_ok hp)) (plT (W2 k)) (fun q hq => (TL_bd (by rw [← eX]; exact hp.2.2.2.2.2.1) q hq).1)
    have hfd := fun z : QP => uX4_firstDayUnder (d := d) (P := z) hp (par := p) (x := y) (by omega) (by omega) (by have := hy.1; omega) (by have := hy.2; omega)
    rw [eX] at hfd
    have en : ((k : Int) + 1) = ((k + 1 : Nat) : Int) := by omega
    by_cases gF : cPf W2 p y k = true
    · have gF' : 0 ≤ tlFst p y (plEnd (W2 k)) (plT (W2 k)) := of_decide_eq_true gF
      obtain ⟨M1, g1, cT1, c1, w1, f1, r1, e1⟩ := wRep (d := d) (i := k) (y := y) (old := p) (v := j) hg hw hW' hk20 (by rw [eX]; exact hb'.1) hy ⟨by omega, by omega⟩ ⟨by omega, by omega⟩
      obtain ⟨M2, c2, w2, f2, q2⟩ := wHis (d := d + 2) (i := k) (a := tlFst p y (plEnd (W2 k)) (plT (W2 k))) (b := 8) (c := j) f1.2.2.2.1 f1.2.2.2.2 w1 hk20 (by rw [upF_s, eX]; exact hb'.2) bF ⟨by omega, by omega⟩ ⟨by omega, by omega⟩
      rw [upF_up, upF_s, eX] at w2
      have e0 := e1 0 (by omega) (by omega) (by omega)
      have e7 := e1 7 (by omega) (by omega) (by omega)
      have e16 : g1 16 = g 16 := f1.2.1 16 (by omega) (by unfold rowS; omega)
      obtain ⟨M3, g3, cT3, c3, w3, f3, r3⟩ := ih (k + 1) M2 g1 (upF cT k cT1) _ (by omega) f2.2.2.2.1 f2.2.2.2.2 w2 (fun c hc => by rw [upF_o (by omega)]; exact hX c (by omega))
      refine ⟨M3, g3, cT3, fun P l8 l9 => ?_, ?_, ((f1.wk (fun s _ z => row_w z)).tr (f2.wk (fun s _ z => row_w z))).tr f3, ((gW.T hk20 r1).tr (gW.qt q2)).tr r3⟩
      · have p1 := (w1.1.2.2.2.2.2 k hk20).2
        have k1 : q_kd M1 (gA g k 0) = (1, 4) := by rw [← e0]; exact PLr_0 p1
        have k7 : q_kd M1 (gA g k 7) = (1, 1) := by rw [← e7]; exact PLr_k7 p1
        have v8 : q_fv M1 (gA g k 0) 8 = qr (gA g k 7) := by rw [← e0, ← e7]; exact PLr_f8 p1
        rw [e7] at c2
        have c3' := c3 P (some (qr (gA g k 0))) (some (qi (tlFst p y (plEnd (W2 k)) (plT (W2 k)))))
        rw [e16, bCt_1 gF, ← en] at c3'
        rw [kX11_takeIn_63]
        simp (disch := first | assumption | exact PLr_0 hp | exact PLr_k1 hp | exact PLr_k4 hp | exact PLr_k7 hp | exact bI_lo | exact bI_hi | exact bI_01 | (show (List.map q_wd _).sum ≤ 8; with_unfolding_all exact Nat.le_of_ble_eq_true rfl) | omega) only [kX11_takeIn_65, kX11_takeIn_66, kX11_takeIn_69, kX11_takeIn_72, kX11_takeIn_73, kX11_takeIn_76, kX11_takeIn_78, kX11_takeIn_79, kX11_takeIn_81, kX11_takeIn_83r, kX11_takeIn_83n, kX11_takeIn_86, kX11_takeIn_87, kX11_takeIn_90, kX11_takeIn_92, kX11_takeIn_93, kX11_takeIn_95E, kX11_takeIn_98, kX11_takeIn_100, kX11_takeIn_102, kX11_takeIn_105, kX11_takeIn_107, kX11_takeIn_110, kX11_takeIn_112, kX11_takeIn_113, kX11_takeIn_114E, kX11_takeIn_117, kX11_takeIn_119, kX11_takeIn_122, kX11_takeIn_124, kX11_takeIn_126, kX11_takeIn_127E, kX11_takeIn_130, kX11_takeIn_133, kX11_takeIn_136, kX11_takeIn_139, kX11_takeIn_141, q_cut_i, q_cut_r, q_cut_l, q_cut_n, q_psh_n, q_psh_s, bI_eq0, ite_not, ↓if_pos, ↓if_neg, ↓ite_bI_t, ↓ite_bI_f, fn, fpa, q_toN, hA, hfd, PLr_f7 hp, T_of c1, v8, T_of c2]
        exact c3'
      · have : cTk W2 p j y (k + 1) n (upF X k (tkP p j y (W2 k))) = cTk W2 p j y k n X := cTk_y (by omega) gF
        rw [← this]
        exact w3
    · have gF' : ¬ 0 ≤ tlFst p y (plEnd (W2 k)) (plT (W2 k)) := fun z => gF (decide_eq_true z)
      obtain ⟨M3, g3, cT3, c3, w3, f3, r3⟩ := ih (k + 1) M g cT X (by omega) hg hw hW' (fun c hc => hX c (by omega))
      refine ⟨M3, g3, cT3, fun P l8 l9 => ?_, by rw [cTk_n gF] at w3; exact w3, f3, r3⟩
      have c3' := c3 P (some (qr (gA g k 0))) (some (qi (tlFst p y (plEnd (W2 k)) (plT (W2 k)))))
      rw [bCt_0 gF, ← en] at c3'
      rw [kX11_takeIn_63]
      simp (disch := first | assumption | exact PLr_0 hp | exact PLr_k1 hp | exact PLr_k4 hp | exact PLr_k7 hp | exact bI_lo | exact bI_hi | exact bI_01 | (show (List.map q_wd _).sum ≤ 8; with_unfolding_all exact Nat.le_of_ble_eq_true rfl) | omega) only [kX11_takeIn_65, kX11_takeIn_66, kX11_takeIn_69, kX11_takeIn_72, kX11_takeIn_73, kX11_takeIn_76, kX11_takeIn_78, kX11_takeIn_79, kX11_takeIn_81, kX11_takeIn_83r, kX11_takeIn_83n, kX11_takeIn_86, kX11_takeIn_87, kX11_takeIn_90, kX11_takeIn_92, kX11_takeIn_93, kX11_takeIn_95E, kX11_takeIn_98, kX11_takeIn_100, kX11_takeIn_102, kX11_takeIn_105, kX11_takeIn_107, kX11_takeIn_110, kX11_takeIn_112, kX11_takeIn_113, kX11_takeIn_114E, kX11_takeIn_117, kX11_takeIn_119, kX11_takeIn_122, kX11_takeIn_124, kX11_takeIn_126, kX11_takeIn_127E, kX11_takeIn_130, kX11_takeIn_133, kX11_takeIn_136, kX11_takeIn_139, kX11_takeIn_141, q_cut_i, q_cut_r, q_cut_l, q_cut_n, q_psh_n, q_psh_s, bI_eq0, ite_not, ↓if_pos, ↓if_neg, ↓ite_bI_t, ↓ite_bI_f, fn, fpa, q_toN, hA, hfd]
      exact c3'
def cM1 (W : Nat → Pl) (p j : Nat) (y : Int) : Nat → Pl := upF W p (plRem (plSi (plSe (W p) y) j) y 3 j)
def cM2 (W : Nat → Pl) (p j : Nat) (y : Int) : Nat → Pl := upF (cM1 W p j y) j (plHis (cM1 W p j y j) (y, 6, p))
theorem cM2_len {W : Nat → Pl} {p j : Nat} {y : Int} (c : Nat) : plT (cM2 W p j y c) = plT (W c) ∧ plN (cM2 W p j y c) = plN (W c) ∧ (plH (cM2 W p j y c)).length ≤ (plH (W c)).length + 2 := by
  have h1 : plT (cM1 W p j y c) = plT (W c) ∧ plN (cM1 W p j y c) = plN (W c) ∧ (plH (cM1 W p j y c)).length ≤ (plH (W c)).length + 1 := by
    unfold cM1
    by_cases e : c = p
    · subst e
      rw [upF_s]
      exact ⟨rfl, rfl, by simp [plRem, plSi, plSe, plH]⟩
    · rw [upF_o e]
      exact ⟨rfl, rfl, by omega⟩
  unfold cM2
  by_cases e : c = j
  · subst e
    rw [upF_s]
    refine ⟨h1.1, h1.2.1, ?_⟩
    have : (plH (plHis (cM1 W p c y c) (y, 6, (p : Int)))).length = (plH (cM1 W p c y c)).length + 1 := by simp [plHis, plH]
    omega
  · rw [upF_o e]
    exact ⟨h1.1, h1.2.1, by omega⟩
theorem vX11_takeIn {p j : Nat} {y : Int} (hg : gI M g) (hw : q_wf M) (h : WMm M g cN cT W n mg sp) (hpn : p < n) (hjn : j < n) (hb : ∀ c, c < 20 → (plT (W c)).length ≤ 1000 ∧ (plH (W c)).length < 90000) (hy : q_b y) (hs : -100000 ≤ mg ∧ mg ≤ 100000) : ∃ M' g' cT', q_C (d + 4) iX11_takeIn [qr (g 16), qi p, qr (gA g p 0), qi j, qi y] M (some (qi (bCt (cPf (cM2 W p j y) p y) n))) M' ∧ WMm M' g' cN cT' (cTk (cM2 W p j y) p j y 0 n (cM2 W p j y)) n (mg + 1) sp ∧ GF wS M M' g g' ∧ (∀ s, s < 24 → g' s = g s) ∧ gW M M' cN cT cN cT' := by
  have h20 := h.1.2.2.2.1
  obtain ⟨hA, hp⟩ := h.1.2.2.2.2.2 p (by omega)
  have bj : q_b j := ⟨by omega, by omega⟩
  have s1 := wSe (v := y) hg hw h (i := p) (by omega) hy
  have s2 := wSi (v := j) s1.2.2.2.2.1 s1.2.2.2.2.2 s1.1 (i := p) (by omega) bj
  rw [upF_up, upF_s] at s2
  obtain ⟨M3, c3, w3, f3, q3⟩ := wRem (d := d + 1) (i := p) (a := y) (b := 3) (c := j) s2.2.2.2.2.1 s2.2.2.2.2.2 s2.1 (by omega) (by rw [upF_s]; have := (hb p (by omega)).2; exact Nat.lt_of_lt_of_le this (by omega)) hy ⟨by omega, by omega⟩ bj
  rw [upF_up, upF_s] at w3
  change WMm M3 g cN cT (cM1 W p j y) n mg sp at w3
  have l1 : (plH (cM1 W p j y j)).length < 100000 := by
    have h1 := (hb j (by omega)).2
    unfold cM1
    by_cases e : j = p
    · subst e
      rw [upF_s]
      simp [plRem, plSi, plSe, plH] at h1 ⊢
      omega
    · rw [upF_o e]; omega
  obtain ⟨M4, c4, w4, f4, q4⟩ := wHis (d := d + 2) (i := j) (a := y) (b := 6) (c := p) f3.2.2.2.1 f3.2.2.2.2 w3 (by omega) l1 hy ⟨by omega, by omega⟩ ⟨by omega, by omega⟩
  change WMm M4 g cN cT (cM2 W p j y) n mg sp at w4
  have s5 := wMg f4.2.2.2.1 f4.2.2.2.2 w4 (mg + 1)
  obtain ⟨M6, g6, cT6, c6, w6, f6, r6⟩ := takeLoop (d := d) (p := p) (j := j) (y := y) (ap := gA g p 0) (aj := gA g j 0) (by omega) (by omega) hy (W2 := cM2 W p j y) (fun c hc => by
    have e := cM2_len (W := W) (p := p) (j := j) (y := y) c
    have := hb c hc
    rw [e.1]
    exact ⟨this.1, by omega⟩) n 0 _ g cT (cM2 W p j y) (by omega) s5.2.2.2.2.1 s5.2.2.2.2.2 s5.1 (fun c _ => rfl)
  have F5 : GF wS M (q_wr M4 (g 16) 1 (qi (mg + 1))) g g := ((((s1.2.wk (fun s _ z => Or.inr (row_w z))).tr (s2.2.wk (fun s _ z => Or.inr (row_w z)))).tr (f3.wk (fun s _ z => Or.inr (row_w z)))).tr (f4.wk (fun s _ z => Or.inr (row_w z)))).tr (s5.2.wk (fun s _ z => Or.inl z))
  have hpy := fun z : QP => uX11_placeY (d := d + 2) (x := z) h.1 (p := j) (by omega) (by omega)
  rw [q_toN] at hpy
  refine ⟨M6, g6, cT6, C_of (fun P => ?_), w6, F5.tr (f6.wk (fun s _ z => Or.inr z)), fun s hs => f6.2.1 s (by omega) (by omega), (gW.qt ((((q_qt.wr.tr q_qt.wr).tr q3).tr q4).tr q_qt.wr)).tr r6⟩
  have c6' := c6 P none none
  obtain ⟨y1, y2⟩ := hy
  have kw := h.1.1
  have p3 := (w3.1.2.2.2.2.2 j (by omega)).2
  have k4 : q_kd M4 (g 16) = (1, 11) := w4.1.1
  have v4 : q_fv M4 (g 16) 1 = qi mg := w4.2.2.1
  rw [eX11_takeIn]
  simp (disch := first | assumption | exact PLr_0 hp | exact PLr_0 p3 | exact PLr_k7 p3 | exact bI_lo | exact bI_hi | (show (List.map q_wd _).sum ≤ 8; with_unfolding_all exact Nat.le_of_ble_eq_true rfl) | omega | (simp only [q_kd_wr]; first | assumption | exact PLr_0 hp)) only [kX11_takeIn_0, kX11_takeIn_1, kX11_takeIn_2E, kX11_takeIn_5, kX11_takeIn_7, kX11_takeIn_9r, kX11_takeIn_9n, kX11_takeIn_12, kX11_takeIn_14, kX11_takeIn_15, kX11_takeIn_16, kX11_takeIn_18, kX11_takeIn_21, kX11_takeIn_22, kX11_takeIn_23, kX11_takeIn_26, kX11_takeIn_27, kX11_takeIn_29, kX11_takeIn_30, kX11_takeIn_31E, kX11_takeIn_34, kX11_takeIn_36, kX11_takeIn_39, kX11_takeIn_41, kX11_takeIn_43, kX11_takeIn_44E, kX11_takeIn_47, kX11_takeIn_48i, kX11_takeIn_48r, kX11_takeIn_49, kX11_takeIn_52, kX11_takeIn_53, kX11_takeIn_54, kX11_takeIn_57, kX11_takeIn_58, kX11_takeIn_60, kX11_takeIn_61, q_cut_i, q_cut_r, q_cut_l, q_cut_n, q_psh_n, q_psh_s, bI_eq0, ite_not, ↓if_pos, ↓if_neg, ↓ite_bI_t, ↓ite_bI_f, hpy, T_of c3, PLr_f8 p3, T_of c4, v4]
  exact c6'
end WM4
