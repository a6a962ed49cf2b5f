
/-! run: the orders of a text -/
def rnR : CWs → List Od → Nat → CWs × Option (Nat × Int)
  | C, [], _ => (C, none)
  | C, q :: os, i => if cwh C q = 0 then rnR (cDo C q).1 os (i + 1) else (C, some (i, cwh C q))
theorem gE.tr {M A : QM} {g g1 g2 : Nat → Nat} {e c e1 c1 e2 c2 : Nat} (h : gE M g g1 e c e1 c1) (ht : q_top M ≤ q_top A) (h' : gE A g1 g2 e1 c1 e2 c2) : gE M g g2 e c e2 c2 := by
  obtain ⟨⟨a1, a2⟩, a3⟩ := h
  obtain ⟨⟨b1, b2⟩, b3⟩ := h'
  refine ⟨⟨fun s hs => (b1 s hs).trans (a1 s hs), fun s hs => ?_⟩, ?_⟩
  · rcases b2 s hs with z | z
    · rcases a2 s hs with y | y
      · exact Or.inl (z.trans y)
      · right; rw [z]; exact y
    · right; omega
  · rcases b3 with z | z
    · rcases a3 with y | y
      · exact Or.inl ⟨z.1.trans y.1, z.2.trans y.2⟩
      · right; rw [z.1]; exact y
    · right; omega
theorem tFr_back {M : QM} {g g1 : Nat → Nat} {e c e1 c1 x : Nat} (h : gE M g g1 e c e1 c1) (hx : x < q_top M) (hf : tFr g1 e1 c1 x) : tFr g e c x := by
  obtain ⟨⟨a1, a2⟩, a3⟩ := h
  rcases hf with ⟨s, hs, hS, z⟩ | ⟨z, zc⟩
  · rcases a2 s hs with y | y
    · exact Or.inl ⟨s, hs, hS, by rw [z, y]⟩
    · omega
  · rcases a3 with y | y
    · exact Or.inr ⟨by rw [z, y.1], by rw [← y.2]; exact zc⟩
    · omega
def rnO (M M' : QM) (g cN cT c : Nat → Nat) (e1 c1 e2 c2 : Nat) (L2 : List Nat) (e3 c3 : Nat) (J2 : List Od) (hs hc : Int) (C' : CWs) (J' : List Od) (ms' : List Int) (lr' : Int) : Prop := ∃ g' cN' cT' c' e1' c1' L1', CRI M' g' cN' cT' c' e1' c1' L1' e2 c2 L2 C' J' J2 ms' hs lr' hc ∧ TP M' (g 1) (g 2) [] ∧ RDI M' g e1' c1' e2 c2 e3 c3 ∧ q_fr (tFr g e1 c1) M M' ∧ gE M g g' e1 c1 e1' c1' ∧ q_gr M M' (c1 + poS cN cT c) (c1' + poS cN' cT' c')
def rnP (M M' : QM) (g cN cT c : Nat → Nat) (e1 c1 e2 c2 : Nat) (L2 : List Nat) (e3 c3 : Nat) (J J2 : List Od) (ms : List Int) (hs lr hc : Int) (os : List Od) (ans : Int) (p : CWs × Option (Nat × Int)) : Prop := match p with
  | (C', none) => ans = os.length ∧ rnO M M' g cN cT c e1 c1 e2 c2 L2 e3 c3 J2 hs hc C' (J ++ os) (kpM ms J.length) lr
  | (C', some (i, y)) => ans = -200 - i ∧ rnO M M' g cN cT c e1 c1 e2 c2 L2 e3 c3 J2 hs hc (cRun (clrC C') J) J ms y
section RN2
variable {M : QM} {g cN cT c : Nat → Nat} {e1 c1 e2 c2 : Nat} {L1 L2 : List Nat} {C : CWs} {J J2 : List Od} {ms : List Int} {hs lr hc : Int} {d : Nat}
/-- the reader's things stay where orders are carried out -/
theorem RDI_t {A B : QM} {g gA : Nat → Nat} {e1A c1A e3 c3 : Nat} {a nu w : Int} {L3 : List Nat} {os : List Od} (hgA : gI A gA) (hw : q_wf A) (hk : gK A gA) (h19 : ∀ s, s < 19 → gA s = g s) (hk1 : 0 < c1A → (q_kd A e1A).1 = 5) (hed : eD e3 c3 e1A c1A) (hR : RD A (g 3) (g 4) a nu w) (hJ : JR A (g 4) e3 c3 L3 os) (hf : q_fr (tFr gA e1A c1A) A B) : RD B (g 3) (g 4) a nu w ∧ JR B (g 4) e3 c3 L3 os := by
  have ns : ∀ s, s < 19 → ¬ tS s → ¬ tFr gA e1A c1A (g s) := fun s hs hn z => by
    rw [← h19 s hs] at z
    rcases z with ⟨u, hu, hS, e⟩ | ⟨z, zc⟩
    · exact hn (hgA.1 s u (by omega) hu e ▸ hS)
    · exact (hk s (by omega)).1 (by rw [z]; exact hk1 zc)
  refine ⟨RD.fr hw hR hf (ns 3 (by omega) (by unfold tS carS; omega)), JR_fr hw hJ hf (ns 4 (by omega) (by unfold tS carS; omega)) (fun hcp z => ?_) (fun b hb z => ?_)⟩
  · have ke := AL_k5 hJ.1 hcp
    rcases z with ⟨u, hu, hS, e⟩ | ⟨z, zc⟩
    · exact (hk u hu).1 (by rw [← e, ke])
    · unfold eD at hed; omega
  · rcases z with ⟨u, hu, hS, e⟩ | ⟨z, zc⟩
    · exact (hk u hu).2 (by rw [← e, hb])
    · have := hk1 zc; rw [← z, hb] at this; simp at this
theorem run_loop {e3 c3 : Nat} {L3 : List Nat} {os : List Od} {a nu w res : Int} (hI : CRI M g cN cT c e1 c1 L1 e2 c2 L2 C J J2 ms hs lr hc) (hT : TP M (g 1) (g 2) []) (hR : RD M (g 3) (g 4) a nu w) (hJ3 : JR M (g 4) e3 c3 L3 os) (hd1 : eD e3 c3 e1 c1) (hd2 : eD e3 c3 e2 c2) (hlen : J.length + os.length ≤ 512) (hol : os.length ≤ 81)
    (hok : ∀ (i : Nat) (q : Od), os[i]? = some q → (∀ (j : Nat) (q' : Od), j < i → os[j]? = some q' → cwh (cRun C (os.take j)) q' = 0) → CB (cRun C (os.take i)) ∧ (cwh (cRun C (os.take i)) q = 0 → oOk (cRun C (os.take i)) q) ∧ (cwh (cRun C (os.take i)) q ≠ 0 → jOk (cRun C (os.take i)) J)) :
    ∃ M' ans, (∀ P, Rr (q_C (d + 8)) mX12_run (59, [some (qr (g 0)), some (qi res), some (qi os.length), some (qi J.length), some (qi 0), none, none], [], M) P = P (some (qi ans)) M') ∧ rnP M M' g cN cT c e1 c1 e2 c2 L2 e3 c3 J J2 ms hs lr hc os ans (rnR C os 0) := by
  have loop : ∀ (m i : Nat) (A : QM) (gA cNA cTA cA : Nat → Nat) (e1A c1A : Nat) (L1A : List Nat) (l5 l6 : Option CV), i + m = os.length → CRI A gA cNA cTA cA e1A c1A L1A e2 c2 L2 (cRun C (os.take i)) (J ++ os.take i) J2 ms hs lr hc → TP A (g 1) (g 2) [] → RD A (g 3) (g 4) a nu w → JR A (g 4) e3 c3 L3 os → eD e3 c3 e1A c1A → q_fr (tFr g e1 c1) M A → gE M g gA e1 c1 e1A c1A → q_gr M A (c1 + poS cN cT c) (c1A + poS cNA cTA cA) → (∀ (j : Nat) (q' : Od), j < i → os[j]? = some q' → cwh (cRun C (os.take j)) q' = 0) →
      ∃ M' ans, (∀ P, Rr (q_C (d + 8)) mX12_run (59, [some (qr (g 0)), some (qi res), some (qi os.length), some (qi J.length), some (qi i), l5, l6], [], A) P = P (some (qi ans)) M') ∧ rnP M M' g cN cT c e1 c1 e2 c2 L2 e3 c3 J J2 ms hs lr hc os ans (rnR (cRun C (os.take i)) (os.drop i) i) := by
    intro m
    induction m with
    | zero =>
      intro i A gA cNA cTA cA e1A c1A L1A l5 l6 hm hA hTA hRA hJA hedA hF hE hG hacc
      have ei : i = os.length := by omega
      subst ei
      obtain ⟨hgA, hwA, hkA, h0A, hRO, hMK, hCA, hJ1A, hJ2A, hdA⟩ := id hA
      have g0e : gA 0 = g 0 := hE.1.1 0 (by omega)
      obtain ⟨M1, s1, R1, K1, f1, q1⟩ := vX12_keepMark (d := d + 7) (v := J.length) hgA hwA hRO hMK
      have g1 := f1.2.2.2.1
      have w1 := f1.2.2.2.2
      have ff : q_fr (tFr gA e1A c1A) A M1 := f1.1.wk (fun x _ z => by
        obtain ⟨s, hs, hS, e⟩ := z
        exact Or.inl ⟨s, hs, by unfold tS; omega, e⟩)
      have I1 : CRI M1 gA cNA cTA cA e1A c1A L1A e2 c2 L2 (cRun C (os.take os.length)) (J ++ os.take os.length) J2 (kpM ms J.length) hs lr hc := ⟨g1, w1, gK_fr hgA hkA f1.1, by rw [f1.1.2.1, q1.1, h0A], R1, K1, CMm_ss hCA (f1.ss hgA) (fun s hs => by omega), JR_gf hgA hwA hkA f1.1 (by omega) (by omega) hJ1A, JR_gf hgA hwA hkA f1.1 (by omega) (by omega) hJ2A, hdA⟩
      obtain ⟨RB, JB⟩ := RDI_t hgA hwA hkA hE.1.1 (fun z => by rw [AL_k5 hJ1A.1 z]) hedA hRA hJA ff
      have n1 : ∀ s, s = 1 ∨ s = 2 → ¬ tFr gA e1A c1A (g s) := fun s hs z => by
        rw [← hE.1.1 s (by omega)] at z
        rcases z with ⟨u, hu, hS, e⟩ | ⟨z, zc⟩
        · have := hgA.1 s u (by omega) hu e; unfold tS carS at hS; omega
        · exact (hkA s (by omega)).1 (by rw [z, AL_k5 hJ1A.1 zc])
      refine ⟨M1, os.length, fun P => ?_, ?_⟩
      · have s1' := s1
        rw [g0e] at s1'
        have k0 := hRO.1
        rw [g0e] at k0
        rw [kX12_run_59]
        simp (disch := first | assumption | exact bI_lo | exact bI_hi | exact bI_01 | (show (List.map q_wd _).sum ≤ 8; with_unfolding_all exact Nat.le_of_ble_eq_true rfl) | omega) only [kX12_run_61, kX12_run_62, kX12_run_140, kX12_run_141, kX12_run_142E, kX12_run_145, kX12_run_146, q_cut_i, q_cut_r, q_cut_l, q_cut_n, q_psh_n, q_psh_s, bI_eq0, ite_not, ↓if_pos, ↓if_neg, ↓ite_bI_t, ↓ite_bI_f, T_of s1']
      · rw [List.drop_length, rnR]
        refine ⟨rfl, gA, cNA, cTA, cA, e1A, c1A, L1A, by rw [List.take_length] at I1 ⊢; exact I1, TP_fr hwA hTA ff (n1 1 (Or.inl rfl)) (n1 2 (Or.inr rfl)), ⟨⟨a, nu, w, RB⟩, ⟨L3, os, JB⟩, hedA, hd2⟩, hF.tr2 ff (fun x hx z => tFr_back hE hx z), hE, hG.tr (q_gr.rf q1)⟩
    | succ m ih =>
      intro i A gA cNA cTA cA e1A c1A L1A l5 l6 hm hA hTA hRA hJA hedA hF hE hG hacc
      obtain ⟨hgA, hwA, hkA, h0A, hRO, hMK, hCA, hJ1A, hJ2A, hdA⟩ := id hA
      have il : i < os.length := by omega
      have g0e : gA 0 = g 0 := hE.1.1 0 (by omega)
      have g12e : gA 12 = g 12 := hE.1.1 12 (by omega)
      have g16e : gA 16 = g 16 := hE.1.1 16 (by omega)
      have hq : os[i]? = some os[i] := List.getElem?_eq_getElem il
      obtain ⟨v, hv, ho, hr⟩ := JR_o hJA hq
      obtain ⟨hB, hok1, hok2⟩ := hok i os[i] hq hacc
      have ed : os.drop i = os[i] :: os.drop (i + 1) := List.drop_eq_getElem_cons il
      obtain ⟨k0, r0, r1, r2, r3, r4, r5, r6, r7, r8, r9, r10, r11, r12, r13⟩ := id hRO
      rw [g0e] at k0 r0 r1 r2 r6 r11
      rw [g16e] at r2
      rw [g12e] at r6
      rw [hE.1.1 3 (by omega)] at r1
      have kr := hRA.1
      have kw := hCA.1.1.1
      rw [g16e] at kw
      have kj := hJ1A.1.1
      rw [g12e] at kj
      have so := fun x : QP => uX5_order (d := d + 4) (x := x) hRA hJA (by omega) hv
      have rf := fun x : QP => uX6_refusal (d := d + 3) (x := x) hCA.1.1 ho hr
      rw [g16e] at rf
      have hb := cNo_b (W := cW (cRun C (os.take i))) (n := cn (cRun C (os.take i))) (q := os[i])
      have kv := ho.1
      have n1 : ∀ s, s = 1 ∨ s = 2 → ¬ tFr gA e1A c1A (g s) := fun s hs z => by
        rw [← hE.1.1 s (by omega)] at z
        rcases z with ⟨u, hu, hS, e⟩ | ⟨z, zc⟩
        · have := hgA.1 s u (by omega) hu e; unfold tS carS at hS; omega
        · exact (hkA s (by omega)).1 (by rw [z, AL_k5 hJ1A.1 zc])
      rw [ed, rnR]
      by_cases gz : cwh (cRun C (os.take i)) os[i] = 0
      · rw [if_pos gz]
        obtain ⟨M2, M3, g3, cN3, cT3, c3', e1', c1', L1', t1, t2, u0, u2, uw, I3, f3, E3, r3'⟩ := vOrd (d := d + 2) hA ho hr hB (by simp; omega) (hok1 gz)
        rw [g12e] at t1
        rw [g16e] at t2 u2 uw
        rw [g0e] at u0 u2
        have ff : q_fr (tFr gA e1A c1A) A M3 := f3.wk (fun x _ z => by
          rcases z with ⟨s, hs, hS, e⟩ | z
          · exact Or.inl ⟨s, hs, hS.elim (fun z => Or.inr (Or.inl z)) (fun z => Or.inr (Or.inr (Or.inr z))), e⟩
          · exact Or.inr z)
        obtain ⟨RB, JB⟩ := RDI_t hgA hwA hkA hE.1.1 (fun z => by rw [AL_k5 hJ1A.1 z]) hedA hRA hJA ff
        have cr := cRun_s (C := C) hq
        have jt : J ++ os.take i ++ [os[i]] = J ++ os.take (i + 1) := by rw [List.append_assoc, ← List.take_succ_eq_append_getElem il]
        rw [← cr, jt] at I3
        have e3l : 0 < c3 → e3 < q_top A := fun z => hwA.lt (by rw [AL_k5 hJA.1 z]; simp)
        have hed3 : eD e3 c3 e1' c1' := by
          unfold eD at hedA ⊢
          rcases E3.2 with z | z
          · rw [z.1, z.2]; exact hedA
          · by_cases y : 0 < c3
            · have := e3l y; left; omega
            · right; left; omega
        obtain ⟨M', ans, q1, q2⟩ := ih (i + 1) M3 g3 cN3 cT3 c3' e1' c1' L1' (some (qr v)) (some (qi 0)) (by omega) I3 (TP_fr hwA hTA ff (n1 1 (Or.inl rfl)) (n1 2 (Or.inr rfl))) RB JB hed3 (hF.tr2 ff (fun x hx z => tFr_back hE hx z)) (hE.tr hF.1 E3) (hG.tr r3') (fun j q' hj hq' => by
          by_cases e : j = i
          · subst e
            rw [hq] at hq'
            have : os[j] = q' := Option.some.inj hq'
            rw [← this]; exact gz
          · exact hacc j q' (by omega) hq')
        refine ⟨M', ans, fun P => ?_, by rw [← cr]; exact q2⟩
        have q1' := q1 P
        rw [show ((i + 1 : Nat) : Int) = (i : Int) + 1 by omega] at q1'
        have gz' : cNo (cW (cRun C (os.take i))) (cn (cRun C (os.take i))) os[i] = 0 := gz
        rw [gz'] at rf
        rw [kX12_run_59]
        simp (disch := first | assumption | exact bI_lo | exact bI_hi | exact bI_01 | (show (List.map q_wd _).sum ≤ 8; with_unfolding_all exact Nat.le_of_ble_eq_true rfl) | omega) only [kX12_run_61, kX12_run_62, kX12_run_65, kX12_run_66, kX12_run_69, kX12_run_71E, kX12_run_74, kX12_run_76, kX12_run_77, kX12_run_80, kX12_run_82E, kX12_run_85, kX12_run_87, kX12_run_89, kX12_run_92, kX12_run_93, kX12_run_95, kX12_run_98, kX12_run_99, kX12_run_100E, kX12_run_103, kX12_run_104E, kX12_run_107, kX12_run_110, kX12_run_112, kX12_run_113, kX12_run_114, kX12_run_115, kX12_run_118, kX12_run_120E, kX12_run_123i, kX12_run_123r, kX12_run_124, kX12_run_125, kX12_run_128, kX12_run_130E, kX12_run_133i, kX12_run_133r, kX12_run_134, kX12_run_137, q_cut_i, q_cut_r, q_cut_l, q_cut_n, q_psh_n, q_psh_s, bI_eq0, ite_not, ↓if_pos, ↓if_neg, ↓ite_bI_t, ↓ite_bI_f, r1, so, r2, rf, r6, T_of t1, u2, T_of t2]
        exact q1'
      · rw [if_neg gz]
        have hj := hok2 gz
        obtain ⟨y, hy⟩ : ∃ y, y = cwh (cRun C (os.take i)) os[i] := ⟨_, rfl⟩
        have hy' : cNo (cW (cRun C (os.take i))) (cn (cRun C (os.take i))) os[i] = y := hy.symm
        rw [← hy] at gz ⊢
        rw [hy'] at rf hb
        obtain ⟨I1, f1⟩ := CRI_lr (v := y) hA
        rw [g0e] at I1
        obtain ⟨M1, hM1⟩ : ∃ M1, q_wr A (g 0) 11 (qi y) = M1 := ⟨_, rfl⟩
        have q1 : q_qt A M1 := by rw [← hM1]; exact q_qt.wr
        rw [hM1] at I1
        have f1' : q_fr (tFr gA e1A c1A) A M1 := by rw [← hM1, ← g0e]; exact f1.wk (fun x _ z => by
          obtain ⟨s, hs, hS, e⟩ := z
          exact Or.inl ⟨s, hs, by unfold tS; omega, e⟩)
        obtain ⟨hg1, hw1, hk1, h01, hR1, hMK1, hC1, hJ1, hJ21, hd1'⟩ := id I1
        obtain ⟨M2, t2, J2', f2, q2⟩ := vX12_cutJournal (d := d + 4) (n := J.length) hw1 hR1.1 hR1.2.2.2.2.2.2.2.1 hJ1 (by simp) (by simp; omega)
        have etk : (J ++ os.take i).take J.length = J := List.take_left'  rfl
        rw [etk] at J2'
        have I2 := CRI_j I1 f2 (hw1.qt q2) J2' hd1'
        obtain ⟨hg2, hw2, hk2, h02, hR2, hMK2, hC2, hJ2', hJ22, hd2'⟩ := id I2
        obtain ⟨M3, g3, cN3, cT3, c3', t3, C3, f3, i3, r3'⟩ := vX12_tellAgain (d := d + 2) hg2 hw2 ⟨hR2.1, hR2.2.2.2.1, hR2.2.2.2.2.2.2.2.1⟩ hC2 hJ2' (by omega) hj
        have I3 := CRI_c I2 f3 i3 C3
        have ff : q_fr (tFr gA e1A c1A) A M3 := (f1'.tr (fr_jr f2)).tr (fr_car f3)
        obtain ⟨RB, JB⟩ := RDI_t hgA hwA hkA hE.1.1 (fun z => by rw [AL_k5 hJ1A.1 z]) hedA hRA hJA ff
        have E3 : gE A gA g3 e1A c1A e1A c1A := ⟨⟨i3, fun s hs => (f3.2.2.1 s hs).imp_right (fun z => Nat.le_trans (f1'.tr (fr_jr f2)).1 z)⟩, Or.inl ⟨rfl, rfl⟩⟩
        refine ⟨M3, -200 - (i : Int), fun P => ?_, rfl, g3, cN3, cT3, c3', e1A, c1A, _, I3, TP_fr hwA hTA ff (n1 1 (Or.inl rfl)) (n1 2 (Or.inr rfl)), ⟨⟨a, nu, w, RB⟩, ⟨L3, os, JB⟩, hedA, hd2⟩, hF.tr2 ff (fun x hx z => tFr_back hE hx z), hE.tr hF.1 E3, hG.tr ?_⟩
        · have u1 := hR1.1
          have u2 := hR2.1
          rw [g0e] at t2 t3 u1 u2
          rw [kX12_run_59]
          simp (disch := first | assumption | exact bI_lo | exact bI_hi | exact bI_01 | (show (List.map q_wd _).sum ≤ 8; with_unfolding_all exact Nat.le_of_ble_eq_true rfl) | omega) only [kX12_run_61, kX12_run_62, kX12_run_65, kX12_run_66, kX12_run_69, kX12_run_71E, kX12_run_74, kX12_run_76, kX12_run_77, kX12_run_80, kX12_run_82E, kX12_run_85, kX12_run_87, kX12_run_89, kX12_run_92, kX12_run_93, kX12_run_95, kX12_run_98, kX12_run_99, kX12_run_100E, kX12_run_103, kX12_run_104E, kX12_run_107, kX12_run_110, kX12_run_112, kX12_run_113, q_cut_i, q_cut_r, q_cut_l, q_cut_n, q_psh_n, q_psh_s, bI_eq0, ite_not, ↓if_pos, ↓if_neg, ↓ite_bI_t, ↓ite_bI_f, r1, so, r2, rf, hM1, T_of t2, T_of t3]
        · have a1 := q_gr.rf (cap := 0) q1
          have a2 := q_gr.rf (cap := 0) q2
          obtain ⟨p1, p2, p3⟩ := a1
          obtain ⟨p4, p5, p6⟩ := a2
          obtain ⟨p7, p8, p9⟩ := r3'
          unfold poS
          refine ⟨?_, ?_, ?_⟩ <;> omega
  have := loop os.length 0 M g cN cT c e1 c1 L1 none none (by omega) (by rw [List.take_zero, List.append_nil]; exact hI) hT hR hJ3 hd1 q_fr.rf gE.rf (q_gr.rf q_qt.rf) (fun j q' hj _ => by omega)
  rw [List.drop_zero] at this
  exact this
end RN2
