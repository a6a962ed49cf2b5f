
/-! what an order does to the class's world -/
abbrev CWs : Type := (Nat → Pl) × Nat × Int × Int × List (Int × Int × Int) × List Nat
abbrev cW (C : CWs) : Nat → Pl := C.1
abbrev cn (C : CWs) : Nat := C.2.1
abbrev cmg (C : CWs) : Int := C.2.2.1
abbrev csp (C : CWs) : Int := C.2.2.2.1
abbrev cFN (C : CWs) : List (Int × Int × Int) := C.2.2.2.2.1
abbrev cFO (C : CWs) : List Nat := C.2.2.2.2.2
def cDoS (W : Nat → Pl) (n : Nat) (R : Int × Int × List (Int × Int × Int) × List Nat) (f e y wd : Int) : CWs × Int := ((upF W n (plNew f (if f = 0 then -5 else e) y wd), n + 1, R), (n : Int))
def cDoN (W : Nat → Pl) (R : Nat × Int × Int × List (Int × Int × Int) × List Nat) (p : Nat) (y wd : Int) : CWs × Int := ((upF W p (plRem (plNam (W p) (y, wd)) y 1 (wdLen wd.toNat 8)), R), (wdLen (nmAt (plN (W p)) y).toNat 8 : Nat))
def cDoM (W : Nat → Pl) (R : Nat × Int × Int × List (Int × Int × Int) × List Nat) (p : Nat) (e y : Int) : CWs × Int := ((upF W p (plRem (plSg (plPar (W p) (tlPut (plT (W p)) y e)) (plG (W p) + 1)) y 2 e), R), tlAt (plT (W p)) y)
def cDoP (W : Nat → Pl) (n : Nat) (mg sp : Int) (R : List (Int × Int × Int) × List Nat) (p : Nat) (y wd : Int) : CWs × Int := ((cSp W n p y wd, n + 1, mg, sp + 1, R), (n : Int))
def cDoG (W : Nat → Pl) (n : Nat) (mg sp : Int) (R : List (Int × Int × Int) × List Nat) (p j : Nat) (y : Int) : CWs × Int := ((cTk (cM2 W p j y) p j y 0 n (cM2 W p j y), n, mg + 1, sp, R), (bCt (cPf (cM2 W p j y) p y) n : Nat))
def cDoC (W : Nat → Pl) (R : Nat × Int × Int × List (Int × Int × Int) × List Nat) (p : Nat) (y : Int) : CWs × Int := ((upF W p (plRem (plSe (W p) y) y 4 (-5)), R), y - plF (W p))
def cDo (C : CWs) (q : Od) : CWs × Int :=
  if q.1 = 0 then cDoS (cW C) (cn C) C.2.2 q.2.1 q.2.2.1 q.2.2.2.1 q.2.2.2.2
  else if q.1 = 1 then cDoN (cW C) C.2 q.2.1.toNat q.2.2.2.1 q.2.2.2.2
  else if q.1 = 2 then cDoM (cW C) C.2 q.2.1.toNat q.2.2.1 q.2.2.2.1
  else if q.1 = 3 then cDoP (cW C) (cn C) (cmg C) (csp C) C.2.2.2.2 q.2.1.toNat q.2.2.2.1 q.2.2.2.2
  else if q.1 = 4 then cDoG (cW C) (cn C) (cmg C) (csp C) C.2.2.2.2 q.2.1.toNat q.2.2.1.toNat q.2.2.2.1
  else if q.1 = 5 then cDoC (cW C) C.2 q.2.1.toNat q.2.2.2.1
  else if q.1 = 6 then ((cW C, cn C, cmg C, csp C, cFN C ++ [(q.2.1, q.2.2.1, 0)], cFO C ++ [(cFN C).length]), ((cFO C).length : Int))
  else if q.1 = 7 then ((cW C, cn C, cmg C, csp C, cFN C ++ [(5 + q.2.2.2.1, jnd (cFO C) q.2.1, jnd (cFO C) q.2.2.1)], cFO C ++ [(cFN C).length]), ((cFO C).length : Int))
  else ((cW C, cn C, cmg C, csp C, cFN C, (cFO C).eraseIdx q.2.1.toNat), ((cFO C).length : Int) - 1)
def oOk (C : CWs) (q : Od) : Prop := ((0 ≤ q.1 ∧ q.1 ≤ 5) ∧ cNo (cW C) (cn C) q = 0 ∧ (q.1 = 0 → 0 ≤ q.2.1 ∧ q.2.1 ≤ 3)) ∨ (q.1 = 6 ∧ (cFO C).length < 8) ∨ (q.1 = 7 ∧ (cFO C).length < 8 ∧ (0 ≤ q.2.2.2.1 ∧ q.2.2.2.1 ≤ 2) ∧ 0 ≤ q.2.1 ∧ q.2.1 < (cFO C).length) ∨ (q.1 = 8 ∧ 0 ≤ q.2.1 ∧ q.2.1 < (cFO C).length)
def CB (C : CWs) : Prop := (∀ i, i < 20 → (plN (cW C i)).length ≤ 1000 ∧ (plT (cW C i)).length ≤ 1000 ∧ (plH (cW C i)).length ≤ 5000 ∧ -5000 ≤ plG (cW C i) ∧ plG (cW C i) ≤ 5000) ∧ (cFN C).length ≤ 1000 ∧ (-5000 ≤ cmg C ∧ cmg C ≤ 5000) ∧ (-5000 ≤ csp C ∧ csp C ≤ 5000)
def CMm (M : QM) (g cN cT c : Nat → Nat) (C : CWs) : Prop := WMm M g cN cT (cW C) (cn C) (cmg C) (csp C) ∧ FLm M g c (cFN C) (cFO C) ∧ ∀ k, k < 4 → c k = c 0
def carS (s : Nat) : Prop := s = 16 ∨ 18 ≤ s
def gC (M M' : QM) (cN cT c cN' cT' c' : Nat → Nat) : Prop := q_gr M M' (cs cN 20 + cs cT 20 + cs c 4) (cs cN' 20 + cs cT' 20 + cs c' 4)
theorem gC.w {M M' : QM} {cN cT c cN' cT' : Nat → Nat} (h : gW M M' cN cT cN' cT') : gC M M' cN cT c cN' cT' c := q_gr.ad h _
theorem gC.f {M M' : QM} {cN cT c c' : Nat → Nat} (h : q_gr M M' (cs c 4) (cs c' 4)) : gC M M' cN cT c cN cT c' := by
  obtain ⟨h1, h2, h3⟩ := h
  refine ⟨?_, ?_, ?_⟩ <;> omega
theorem gC.tr {M M1 M2 : QM} {cN cT c cN' cT' c' cN2 cT2 c2 : Nat → Nat} (h1 : gC M M1 cN cT c cN' cT' c') (h2 : gC M1 M2 cN' cT' c' cN2 cT2 c2) : gC M M2 cN cT c cN2 cT2 c2 := q_gr.tr h1 h2
theorem cNo_0 {W : Nat → Pl} {n : Nat} {f e y wd : Int} (h : cNo W n (0, f, e, y, wd) = 0) : (0 ≤ y ∧ y < 10000) ∧ n ≠ 20 ∧ wd ≠ 0 ∧ (f ≠ 0 → (0 ≤ e ∧ e < n) ∧ plK (W e.toNat) < f ∧ plSt (W e.toNat) y = true) := by
  have h' : (if f = 0 then cNoR n y wd else cNoF W n f e y wd) = 0 := h
  by_cases g : f = 0
  · rw [if_pos g] at h'
    unfold cNoR at h'
    by_cases a1 : wd = 0
    · rw [if_pos a1] at h'; omega
    · rw [if_neg a1] at h'
      by_cases a2 : 0 ≤ y ∧ y < 10000
      · rw [if_neg (fun z => z a2)] at h'
        by_cases a3 : n = 20
        · rw [if_pos a3] at h'; omega
        · exact ⟨a2, a3, a1, fun z => absurd g z⟩
      · rw [if_pos a2] at h'; omega
  · rw [if_neg g] at h'
    unfold cNoF at h'
    by_cases a1 : wd = 0
    · rw [if_pos a1] at h'; omega
    · rw [if_neg a1] at h'
      by_cases a4 : 0 ≤ e ∧ e < n
      · rw [if_neg (fun z => z a4)] at h'
        by_cases a2 : 0 ≤ y ∧ y < 10000
        · rw [if_neg (fun z => z a2)] at h'
          by_cases a5 : f ≤ plK (W e.toNat)
          · rw [if_pos a5] at h'; omega
          · rw [if_neg a5] at h'
            by_cases a6 : plSt (W e.toNat) y = true
            · rw [if_neg (fun z => z a6)] at h'
              by_cases a3 : n = 20
              · rw [if_pos a3] at h'; omega
              · exact ⟨a2, a3, a1, fun _ => ⟨a4, by omega, a6⟩⟩
            · rw [if_pos a6] at h'; omega
        · rw [if_pos a2] at h'; omega
      · rw [if_pos a4] at h'; omega
theorem cNo_1 {W : Nat → Pl} {n : Nat} {f e y wd : Int} (h : cNo W n (1, f, e, y, wd) = 0) : cNoE W n f y = 0 ∧ wd ≠ 0 := by
  have h' : (if wd = 0 then (9 : Int) else cNoE W n f y) = 0 := h
  by_cases a1 : wd = 0
  · rw [if_pos a1] at h'; omega
  · rw [if_neg a1] at h'; exact ⟨h', a1⟩
theorem cNo_2 {W : Nat → Pl} {n : Nat} {f e y wd : Int} (h : cNo W n (2, f, e, y, wd) = 0) : cNoE W n f y = 0 ∧ (0 ≤ e ∧ e < n) ∧ plK (W e.toNat) < plK (W f.toNat) ∧ plSt (W e.toNat) y = true := by
  have h' : cNoM W n f e y = 0 := h
  unfold cNoM at h'
  by_cases a1 : ¬ (0 ≤ f ∧ f < n) ∨ ¬ (0 ≤ e ∧ e < n)
  · rw [if_pos a1] at h'; omega
  · rw [if_neg a1] at h'
    by_cases a2 : cNoE W n f y ≠ 0
    · rw [if_pos a2] at h'; exact absurd h' a2
    · rw [if_neg a2] at h'
      by_cases a3 : plK (W f.toNat) ≤ plK (W e.toNat)
      · rw [if_pos a3] at h'; omega
      · rw [if_neg a3] at h'
        by_cases a4 : plSt (W e.toNat) y = true
        · exact ⟨by omega, by omega, by omega, a4⟩
        · rw [if_neg a4] at h'; omega
theorem cNo_3 {W : Nat → Pl} {n : Nat} {f e y wd : Int} (h : cNo W n (3, f, e, y, wd) = 0) : cNoE W n f y = 0 ∧ n ≠ 20 ∧ wd ≠ 0 ∧ (0 ≤ tlAt (plT (W f.toNat)) y ∧ tlAt (plT (W f.toNat)) y < n → plSt (W (tlAt (plT (W f.toNat)) y).toNat) y = true) := by
  have h' : (if wd = 0 then (9 : Int) else cNoS W n f y) = 0 := h
  by_cases a1 : wd = 0
  · rw [if_pos a1] at h'; omega
  · rw [if_neg a1] at h'
    unfold cNoS at h'
    by_cases a2 : cNoE W n f y ≠ 0
    · rw [if_pos a2] at h'; exact absurd h' a2
    · rw [if_neg a2] at h'
      by_cases a3 : (0 ≤ tlAt (plT (W f.toNat)) y ∧ tlAt (plT (W f.toNat)) y < n) ∧ ¬ plSt (W (tlAt (plT (W f.toNat)) y).toNat) y = true
      · rw [if_pos a3] at h'; omega
      · rw [if_neg a3] at h'
        by_cases a4 : n = 20
        · rw [if_pos a4] at h'; omega
        · refine ⟨by omega, a4, a1, fun z => ?_⟩
          by_cases a5 : plSt (W (tlAt (plT (W f.toNat)) y).toNat) y = true
          · exact a5
          · exact absurd ⟨z, a5⟩ a3
theorem cNo_4 {W : Nat → Pl} {n : Nat} {f e y wd : Int} (h : cNo W n (4, f, e, y, wd) = 0) : cNoE W n f y = 0 ∧ (0 ≤ e ∧ e < n) ∧ f ≠ e ∧ plK (W f.toNat) = plK (W e.toNat) ∧ plSt (W e.toNat) y = true := by
  have h' : cNoG W n f e y = 0 := h
  unfold cNoG at h'
  by_cases a1 : ¬ (0 ≤ f ∧ f < n) ∨ ¬ (0 ≤ e ∧ e < n)
  · rw [if_pos a1] at h'; omega
  · rw [if_neg a1] at h'
    by_cases a0 : f = e
    · rw [if_pos a0] at h'; omega
    · rw [if_neg a0] at h'
      by_cases a2 : cNoE W n f y ≠ 0
      · rw [if_pos a2] at h'; exact absurd h' a2
      · rw [if_neg a2] at h'
        by_cases a3 : plK (W f.toNat) ≠ plK (W e.toNat)
        · rw [if_pos a3] at h'; omega
        · rw [if_neg a3] at h'
          by_cases a4 : plSt (W e.toNat) y = true
          · exact ⟨by omega, by omega, a0, by omega, a4⟩
          · rw [if_neg a4] at h'; omega
theorem cNo_5 {W : Nat → Pl} {n : Nat} {f e y wd : Int} (h : cNo W n (5, f, e, y, wd) = 0) : cNoE W n f y = 0 ∧ ¬ (List.range n).any (cPf W f y) = true := by
  have h' : cNoC W n f y = 0 := h
  unfold cNoC at h'
  by_cases a2 : cNoE W n f y ≠ 0
  · rw [if_pos a2] at h'; exact absurd h' a2
  · rw [if_neg a2] at h'
    by_cases a3 : (List.range n).any (cPf W f y) = true
    · rw [if_pos a3] at h'; omega
    · exact ⟨by omega, a3⟩
theorem PLr_kk {M : QM} {a : Nat → Nat} {cN cT : Nat} {p : Pl} (h : PLr M a cN cT p) : ∀ k, k < 11 → q_kd M (a k) ≠ (1, 3) := by
  intro k hk
  have h0 := PLr_0 h
  have h1 := PLr_k1 h
  have h4 := PLr_k4 h
  have h7 := PLr_k7 h
  obtain ⟨-, -, -, -, ⟨-, -, -, -, n1, n2, -⟩, ⟨-, -, -, -, t1, t2, -⟩, ⟨-, -, -, -, -, s1, s2, s3, -⟩, -⟩ := h
  have : k = 0 ∨ k = 1 ∨ k = 2 ∨ k = 3 ∨ k = 4 ∨ k = 5 ∨ k = 6 ∨ k = 7 ∨ k = 8 ∨ k = 9 ∨ k = 10 := by omega
  rcases this with rfl | rfl | rfl | rfl | rfl | rfl | rfl | rfl | rfl | rfl | rfl
  · rw [h0]; simp
  · rw [h1]; simp
  · rw [n1]; simp
  · rw [n2]; simp
  · rw [h4]; simp
  · rw [t1]; simp
  · rw [t2]; simp
  · rw [h7]; simp
  · rw [s1]; simp
  · rw [s2]; simp
  · rw [s3]; simp
section CAR
variable {M : QM} {g cN cT c : Nat → Nat} {C : CWs} {d o : Nat}
theorem CMm_w {S : Nat → Prop} {M' : QM} {g' cN' cT' : Nat → Nat} {W' : Nat → Pl} {n' : Nat} {mg' sp' : Int} (hg : gI M g) (h : CMm M g cN cT c C) (hF : GF S M M' g g') (hS : ∀ s, S s → wS s) (hW : WMm M' g' cN' cT' W' n' mg' sp') : CMm M' g' cN' cT' c (W', n', mg', sp', cFN C, cFO C) ∧ GF carS M M' g g' :=
  ⟨⟨hW, FLm_fr hg h.2.1 hF (fun s hs z => by have := hS s z; unfold wS at this; unfold flS at hs; omega), h.2.2⟩, hF.wk (fun s _ z => by have := hS s z; unfold wS at this; unfold carS; omega)⟩
theorem CMm_f {M' : QM} {g' c' : Nat → Nat} {N' : List (Int × Int × Int)} {O' : List Nat} (hg : gI M g) (h : CMm M g cN cT c C) (hF : GF flS M M' g g') (e18 : g' 18 = g 18) (hL : FLm M' g' c' N' O') (hc : ∀ k, k < 4 → c' k = c' 0) : CMm M' g' cN cT c' (cW C, cn C, cmg C, csp C, N', O') ∧ GF carS M M' g g' ∧ ∀ s, s < 19 → g' s = g s :=
  ⟨⟨WMm_fr hg h.1 hF (fun s hs z => by unfold flS at z; omega) e18, hL, hc⟩, hF.wk (fun s _ z => by unfold flS at z; unfold carS; omega), fun s hs => by
    by_cases e : s = 18
    · rw [e, e18]
    · exact hF.2.1 s (by omega) (by unfold flS; omega)⟩
theorem vX11_carryOut {q : Od} (hg : gI M g) (hw : q_wf M) (h : CMm M g cN cT c C) (hB : CB C) (hO : OB M o q) (hr : odR q) (hk : oOk C q) : ∃ M' g' cN' cT' c', q_C (d + 5) iX11_carryOut [qr (g 16), qr o] M (some (qi (cDo C q).2)) M' ∧ CMm M' g' cN' cT' c' (cDo C q).1 ∧ GF carS M M' g g' ∧ (∀ s, s < 19 → g' s = g s) ∧ gC M M' cN cT c cN' cT' c' := by
  obtain ⟨s, f, e, y, wd⟩ := q
  obtain ⟨ko, o0', o1', o2', o3', o4'⟩ := id hO
  have o0 : q_fv M o 0 = qi s := o0'
  have o1 : q_fv M o 1 = qi f := o1'
  have o2 : q_fv M o 2 = qi e := o2'
  have o3 : q_fv M o 3 = qi y := o3'
  have o4 : q_fv M o 4 = ql wd := o4'
  obtain ⟨⟨r01, r02⟩, ⟨r11, r12⟩, ⟨r21, r22⟩, ⟨r31, r32⟩, r41, r42⟩ := id hr
  have kw := h.1.1.1
  have fw := h.1.2.1
  have k18 := h.2.1.1
  have n20 := h.1.1.2.2.2.1
  obtain ⟨bP, bN, bm, bs⟩ := hB
  have wb : 0 ≤ wd ∧ wd < 2 ^ 40 := ⟨r41, r42⟩
  rcases hk with ⟨hs, hno, hkd⟩ | ⟨hs, hO8⟩ | ⟨hs, hO8, hhow, hfst⟩ | ⟨hs, hfst⟩
  · have hs : 0 ≤ s ∧ s ≤ 5 := hs
    have : s = 0 ∨ s = 1 ∨ s = 2 ∨ s = 3 ∨ s = 4 ∨ s = 5 := by omega
    rcases this with rfl | rfl | rfl | rfl | rfl | rfl
    · -- found
      obtain ⟨a1, a2, a3, a4⟩ := cNo_0 hno
      have hkd := hkd rfl
      have hkd1 : 0 ≤ f := hkd.1
      have hkd2 : f ≤ 3 := hkd.2
      have a2' : cn C < 20 := by omega
      have hv : q_b (if f = 0 then -5 else e) := by
        by_cases z : f = 0
        · rw [if_pos z]; constructor <;> omega
        · rw [if_neg z]; have := (a4 z).1; constructor <;> omega
      obtain ⟨M1, c1, w1, f1, q1⟩ := vX11_settle (d := d + 1) (k := f) (v := if f = 0 then -5 else e) (y := y) (wd := wd) hg hw h.1 a2' ⟨by omega, by omega⟩ hv ⟨by omega, by omega⟩ wb.1 wb.2
      have z := CMm_w hg h f1 (fun s hs => by unfold wS; rcases hs with hs | hs; exact Or.inl hs; exact Or.inr (row_w hs)) w1
      refine ⟨M1, g, cN, cT, c, C_of (fun P => ?_), z.1, z.2, fun _ _ => rfl, gC.w (gW.qt q1)⟩
      rw [eX11_carryOut]
      by_cases g0 : f = 0
      · rw [if_pos g0] at c1
        simp (disch := first | assumption | exact bI_lo | exact bI_hi | exact bI_01 | (show (List.map q_wd _).sum ≤ 8; with_unfolding_all exact Nat.le_of_ble_eq_true rfl) | omega) only [kX11_carryOut_0, kX11_carryOut_1r, kX11_carryOut_1n, kX11_carryOut_4, kX11_carryOut_6, kX11_carryOut_7, kX11_carryOut_8, kX11_carryOut_11, kX11_carryOut_60, kX11_carryOut_61, kX11_carryOut_62, kX11_carryOut_65, kX11_carryOut_66, kX11_carryOut_69, kX11_carryOut_72, kX11_carryOut_74, kX11_carryOut_77, kX11_carryOut_78, kX11_carryOut_81, kX11_carryOut_82, kX11_carryOut_85, kX11_carryOut_86, kX11_carryOut_89E, kX11_carryOut_92, kX11_carryOut_93, kX11_carryOut_94, kX11_carryOut_97, kX11_carryOut_98, kX11_carryOut_101, kX11_carryOut_102, kX11_carryOut_105E, kX11_carryOut_108, kX11_carryOut_109, kX11_carryOut_110, kX11_carryOut_113, kX11_carryOut_114, kX11_carryOut_117, kX11_carryOut_118, kX11_carryOut_121, kX11_carryOut_122, kX11_carryOut_125E, kX11_carryOut_128, kX11_carryOut_129, kX11_carryOut_130, kX11_carryOut_133, kX11_carryOut_134, kX11_carryOut_137E, kX11_carryOut_140, kX11_carryOut_141, kX11_carryOut_142, kX11_carryOut_143, kX11_carryOut_146E, kX11_carryOut_149, kX11_carryOut_150, kX11_carryOut_151r, kX11_carryOut_151n, kX11_carryOut_154, kX11_carryOut_156, kX11_carryOut_157, kX11_carryOut_158, kX11_carryOut_161, kX11_carryOut_192, kX11_carryOut_193, kX11_carryOut_194, kX11_carryOut_197, kX11_carryOut_198, kX11_carryOut_201E, kX11_carryOut_204, kX11_carryOut_205, kX11_carryOut_206, kX11_carryOut_207, kX11_carryOut_210, kX11_carryOut_211, kX11_carryOut_214E, kX11_carryOut_217, kX11_carryOut_218, kX11_carryOut_219, kX11_carryOut_220, kX11_carryOut_223, kX11_carryOut_224, kX11_carryOut_225, kX11_carryOut_228, kX11_carryOut_229, kX11_carryOut_232E, kX11_carryOut_235, kX11_carryOut_236, kX11_carryOut_237, kX11_carryOut_238, kX11_carryOut_241, kX11_carryOut_242, kX11_carryOut_243, kX11_carryOut_246, kX11_carryOut_247, kX11_carryOut_250E, kX11_carryOut_253, kX11_carryOut_254, kX11_carryOut_255, kX11_carryOut_256, kX11_carryOut_259, kX11_carryOut_262, kX11_carryOut_263, kX11_carryOut_264, kX11_carryOut_267, kX11_carryOut_268, kX11_carryOut_270E, kX11_carryOut_273, kX11_carryOut_274, kX11_carryOut_277, kX11_carryOut_278, kX11_carryOut_281, kX11_carryOut_282, q_cut_i, q_cut_r, q_cut_l, q_cut_n, q_psh_n, q_psh_s, bI_eq0, ite_not, ↓if_pos, ↓if_neg, ↓ite_bI_t, ↓ite_bI_f, o0, o1, o2, o3, o4, T_of c1]
        rfl
      · rw [if_neg g0] at c1
        simp (disch := first | assumption | exact bI_lo | exact bI_hi | exact bI_01 | (show (List.map q_wd _).sum ≤ 8; with_unfolding_all exact Nat.le_of_ble_eq_true rfl) | omega) only [kX11_carryOut_0, kX11_carryOut_1r, kX11_carryOut_1n, kX11_carryOut_4, kX11_carryOut_6, kX11_carryOut_7, kX11_carryOut_8, kX11_carryOut_11, kX11_carryOut_60, kX11_carryOut_61, kX11_carryOut_62, kX11_carryOut_65, kX11_carryOut_66, kX11_carryOut_69, kX11_carryOut_72, kX11_carryOut_74, kX11_carryOut_77, kX11_carryOut_78, kX11_carryOut_81, kX11_carryOut_82, kX11_carryOut_85, kX11_carryOut_86, kX11_carryOut_89E, kX11_carryOut_92, kX11_carryOut_93, kX11_carryOut_94, kX11_carryOut_97, kX11_carryOut_98, kX11_carryOut_101, kX11_carryOut_102, kX11_carryOut_105E, kX11_carryOut_108, kX11_carryOut_109, kX11_carryOut_110, kX11_carryOut_113, kX11_carryOut_114, kX11_carryOut_117, kX11_carryOut_118, kX11_carryOut_121, kX11_carryOut_122, kX11_carryOut_125E, kX11_carryOut_128, kX11_carryOut_129, kX11_carryOut_130, kX11_carryOut_133, kX11_carryOut_134, kX11_carryOut_137E, kX11_carryOut_140, kX11_carryOut_141, kX11_carryOut_142, kX11_carryOut_143, kX11_carryOut_146E, kX11_carryOut_149, kX11_carryOut_150, kX11_carryOut_151r, kX11_carryOut_151n, kX11_carryOut_154, kX11_carryOut_156, kX11_carryOut_157, kX11_carryOut_158, kX11_carryOut_161, kX11_carryOut_192, kX11_carryOut_193, kX11_carryOut_194, kX11_carryOut_197, kX11_carryOut_198, kX11_carryOut_201E, kX11_carryOut_204, kX11_carryOut_205, kX11_carryOut_206, kX11_carryOut_207, kX11_carryOut_210, kX11_carryOut_211, kX11_carryOut_214E, kX11_carryOut_217, kX11_carryOut_218, kX11_carryOut_219, kX11_carryOut_220, kX11_carryOut_223, kX11_carryOut_224, kX11_carryOut_225, kX11_carryOut_228, kX11_carryOut_229, kX11_carryOut_232E, kX11_carryOut_235, kX11_carryOut_236, kX11_carryOut_237, kX11_carryOut_238, kX11_carryOut_241, kX11_carryOut_242, kX11_carryOut_243, kX11_carryOut_246, kX11_carryOut_247, kX11_carryOut_250E, kX11_carryOut_253, kX11_carryOut_254, kX11_carryOut_255, kX11_carryOut_256, kX11_carryOut_259, kX11_carryOut_262, kX11_carryOut_263, kX11_carryOut_264, kX11_carryOut_267, kX11_carryOut_268, kX11_carryOut_270E, kX11_carryOut_273, kX11_carryOut_274, kX11_carryOut_277, kX11_carryOut_278, kX11_carryOut_281, kX11_carryOut_282, q_cut_i, q_cut_r, q_cut_l, q_cut_n, q_psh_n, q_psh_s, bI_eq0, ite_not, ↓if_pos, ↓if_neg, ↓ite_bI_t, ↓ite_bI_f, o0, o1, o2, o3, o4, T_of c1]
        rfl
    · -- rename
      obtain ⟨a1, a2⟩ := cNo_1 hno
      obtain ⟨b1, b2, b3, b4, b5, b6⟩ := cNoE_0 a1
      obtain ⟨p, rfl⟩ : ∃ p : Nat, f = p := ⟨f.toNat, by omega⟩
      have bp := bP p (by omega)
      obtain ⟨M1, g1, cN1, c1, w1, f1, r1⟩ := vX11_giveName (d := d) (i := p) (y := y) (wd := wd) hg hw h.1 (by omega) (by omega) (by omega) ⟨by omega, by omega⟩ wb.1 wb.2
      have z := CMm_w hg h f1 (fun s hs => Or.inr (row_w hs)) w1
      refine ⟨M1, g1, _, cT, c, C_of (fun P => ?_), z.1, z.2, fun s hs => f1.2.1 s (by omega) (by unfold rowS; omega), gC.w (gW.N (by omega) r1)⟩
      have hpy := fun x : QP => uX11_placeY (d := d + 3) (x := x) h.1.1 (p := p) (by omega) (by omega)
      rw [q_toN] at hpy
      rw [eX11_carryOut]
      simp (disch := first | assumption | exact bI_lo | exact bI_hi | exact bI_01 | (show (List.map q_wd _).sum ≤ 8; with_unfolding_all exact Nat.le_of_ble_eq_true rfl) | omega) only [kX11_carryOut_0, kX11_carryOut_1r, kX11_carryOut_1n, kX11_carryOut_4, kX11_carryOut_6, kX11_carryOut_7, kX11_carryOut_8, kX11_carryOut_11, kX11_carryOut_60, kX11_carryOut_61, kX11_carryOut_62, kX11_carryOut_65, kX11_carryOut_66, kX11_carryOut_69, kX11_carryOut_72, kX11_carryOut_74, kX11_carryOut_77, kX11_carryOut_78, kX11_carryOut_81, kX11_carryOut_82, kX11_carryOut_85, kX11_carryOut_86, kX11_carryOut_89E, kX11_carryOut_92, kX11_carryOut_93, kX11_carryOut_94, kX11_carryOut_97, kX11_carryOut_98, kX11_carryOut_101, kX11_carryOut_102, kX11_carryOut_105E, kX11_carryOut_108, kX11_carryOut_109, kX11_carryOut_110, kX11_carryOut_113, kX11_carryOut_114, kX11_carryOut_117, kX11_carryOut_118, kX11_carryOut_121, kX11_carryOut_122, kX11_carryOut_125E, kX11_carryOut_128, kX11_carryOut_129, kX11_carryOut_130, kX11_carryOut_133, kX11_carryOut_134, kX11_carryOut_137E, kX11_carryOut_140, kX11_carryOut_141, kX11_carryOut_142, kX11_carryOut_143, kX11_carryOut_146E, kX11_carryOut_149, kX11_carryOut_150, kX11_carryOut_151r, kX11_carryOut_151n, kX11_carryOut_154, kX11_carryOut_156, kX11_carryOut_157, kX11_carryOut_158, kX11_carryOut_161, kX11_carryOut_192, kX11_carryOut_193, kX11_carryOut_194, kX11_carryOut_197, kX11_carryOut_198, kX11_carryOut_201E, kX11_carryOut_204, kX11_carryOut_205, kX11_carryOut_206, kX11_carryOut_207, kX11_carryOut_210, kX11_carryOut_211, kX11_carryOut_214E, kX11_carryOut_217, kX11_carryOut_218, kX11_carryOut_219, kX11_carryOut_220, kX11_carryOut_223, kX11_carryOut_224, kX11_carryOut_225, kX11_carryOut_228, kX11_carryOut_229, kX11_carryOut_232E, kX11_carryOut_235, kX11_carryOut_236, kX11_carryOut_237, kX11_carryOut_238, kX11_carryOut_241, kX11_carryOut_242, kX11_carryOut_243, kX11_carryOut_246, kX11_carryOut_247, kX11_carryOut_250E, kX11_carryOut_253, kX11_carryOut_254, kX11_carryOut_255, kX11_carryOut_256, kX11_carryOut_259, kX11_carryOut_262, kX11_carryOut_263, kX11_carryOut_264, kX11_carryOut_267, kX11_carryOut_268, kX11_carryOut_270E, kX11_carryOut_273, kX11_carryOut_274, kX11_carryOut_277, kX11_carryOut_278, kX11_carryOut_281, kX11_carryOut_282, q_cut_i, q_cut_r, q_cut_l, q_cut_n, q_psh_n, q_psh_s, bI_eq0, ite_not, ↓if_pos, ↓if_neg, ↓ite_bI_t, ↓ite_bI_f, o0, o1, o3, o4, hpy, T_of c1]
      rfl
    · -- move
      obtain ⟨a1, a2, a3, a4⟩ := cNo_2 hno
      obtain ⟨b1, b2, b3, b4, b5, b6⟩ := cNoE_0 a1
      obtain ⟨p, rfl⟩ : ∃ p : Nat, f = p := ⟨f.toNat, by omega⟩
      have bp := bP p (by omega)
      obtain ⟨M1, g1, cT1, c1, w1, f1, r1⟩ := vX11_giveParent (d := d) (i := p) (y := y) (v := e) hg hw h.1 (by omega) (by omega) (by omega) ⟨by omega, by omega⟩ ⟨by omega, by omega⟩ ⟨by omega, by omega⟩
      have z := CMm_w hg h f1 (fun s hs => Or.inr (row_w hs)) w1
      refine ⟨M1, g1, cN, _, c, C_of (fun P => ?_), z.1, z.2, fun s hs => f1.2.1 s (by omega) (by unfold rowS; omega), gC.w (gW.T (by omega) r1)⟩
      have hpy := fun x : QP => uX11_placeY (d := d + 3) (x := x) h.1.1 (p := p) (by omega) (by omega)
      rw [q_toN] at hpy
      rw [eX11_carryOut]
      simp (disch := first | assumption | exact bI_lo | exact bI_hi | exact bI_01 | (show (List.map q_wd _).sum ≤ 8; with_unfolding_all exact Nat.le_of_ble_eq_true rfl) | omega) only [kX11_carryOut_0, kX11_carryOut_1r, kX11_carryOut_1n, kX11_carryOut_4, kX11_carryOut_6, kX11_carryOut_7, kX11_carryOut_8, kX11_carryOut_11, kX11_carryOut_60, kX11_carryOut_61, kX11_carryOut_62, kX11_carryOut_65, kX11_carryOut_66, kX11_carryOut_69, kX11_carryOut_72, kX11_carryOut_74, kX11_carryOut_77, kX11_carryOut_78, kX11_carryOut_81, kX11_carryOut_82, kX11_carryOut_85, kX11_carryOut_86, kX11_carryOut_89E, kX11_carryOut_92, kX11_carryOut_93, kX11_carryOut_94, kX11_carryOut_97, kX11_carryOut_98, kX11_carryOut_101, kX11_carryOut_102, kX11_carryOut_105E, kX11_carryOut_108, kX11_carryOut_109, kX11_carryOut_110, kX11_carryOut_113, kX11_carryOut_114, kX11_carryOut_117, kX11_carryOut_118, kX11_carryOut_121, kX11_carryOut_122, kX11_carryOut_125E, kX11_carryOut_128, kX11_carryOut_129, kX11_carryOut_130, kX11_carryOut_133, kX11_carryOut_134, kX11_carryOut_137E, kX11_carryOut_140, kX11_carryOut_141, kX11_carryOut_142, kX11_carryOut_143, kX11_carryOut_146E, kX11_carryOut_149, kX11_carryOut_150, kX11_carryOut_151r, kX11_carryOut_151n, kX11_carryOut_154, kX11_carryOut_156, kX11_carryOut_157, kX11_carryOut_158, kX11_carryOut_161, kX11_carryOut_192, kX11_carryOut_193, kX11_carryOut_194, kX11_carryOut_197, kX11_carryOut_198, kX11_carryOut_201E, kX11_carryOut_204, kX11_carryOut_205, kX11_carryOut_206, kX11_carryOut_207, kX11_carryOut_210, kX11_carryOut_211, kX11_carryOut_214E, kX11_carryOut_217, kX11_carryOut_218, kX11_carryOut_219, kX11_carryOut_220, kX11_carryOut_223, kX11_carryOut_224, kX11_carryOut_225, kX11_carryOut_228, kX11_carryOut_229, kX11_carryOut_232E, kX11_carryOut_235, kX11_carryOut_236, kX11_carryOut_237, kX11_carryOut_238, kX11_carryOut_241, kX11_carryOut_242, kX11_carryOut_243, kX11_carryOut_246, kX11_carryOut_247, kX11_carryOut_250E, kX11_carryOut_253, kX11_carryOut_254, kX11_carryOut_255, kX11_carryOut_256, kX11_carryOut_259, kX11_carryOut_262, kX11_carryOut_263, kX11_carryOut_264, kX11_carryOut_267, kX11_carryOut_268, kX11_carryOut_270E, kX11_carryOut_273, kX11_carryOut_274, kX11_carryOut_277, kX11_carryOut_278, kX11_carryOut_281, kX11_carryOut_282, q_cut_i, q_cut_r, q_cut_l, q_cut_n, q_psh_n, q_psh_s, bI_eq0, ite_not, ↓if_pos, ↓if_neg, ↓ite_bI_t, ↓ite_bI_f, o0, o1, o2, o3, hpy, T_of c1]
      rfl
    · -- split
      obtain ⟨a1, a2, a3, a4⟩ := cNo_3 hno
      obtain ⟨b1, b2, b3, b4, b5, b6⟩ := cNoE_0 a1
      obtain ⟨p, rfl⟩ : ∃ p : Nat, f = p := ⟨f.toNat, by omega⟩
      have bp := bP p (by omega)
      obtain ⟨M1, c1, w1, f1, q1⟩ := vX11_splitOff (d := d) (p := p) (y := y) (wd := wd) hg hw h.1 (by omega) (by omega) (by omega) ⟨by omega, by omega⟩ wb.1 wb.2 (by omega)
      have z := CMm_w hg h f1 (fun s hs => hs) w1
      refine ⟨M1, g, cN, cT, c, C_of (fun P => ?_), z.1, z.2, fun _ _ => rfl, gC.w (gW.qt q1)⟩
      have hpy := fun x : QP => uX11_placeY (d := d + 3) (x := x) h.1.1 (p := p) (by omega) (by omega)
      rw [q_toN] at hpy
      rw [eX11_carryOut]
      simp (disch := first | assumption | exact bI_lo | exact bI_hi | exact bI_01 | (show (List.map q_wd _).sum ≤ 8; with_unfolding_all exact Nat.le_of_ble_eq_true rfl) | omega) only [kX11_carryOut_0, kX11_carryOut_1r, kX11_carryOut_1n, kX11_carryOut_4, kX11_carryOut_6, kX11_carryOut_7, kX11_carryOut_8, kX11_carryOut_11, kX11_carryOut_60, kX11_carryOut_61, kX11_carryOut_62, kX11_carryOut_65, kX11_carryOut_66, kX11_carryOut_69, kX11_carryOut_72, kX11_carryOut_74, kX11_carryOut_77, kX11_carryOut_78, kX11_carryOut_81, kX11_carryOut_82, kX11_carryOut_85, kX11_carryOut_86, kX11_carryOut_89E, kX11_carryOut_92, kX11_carryOut_93, kX11_carryOut_94, kX11_carryOut_97, kX11_carryOut_98, kX11_carryOut_101, kX11_carryOut_102, kX11_carryOut_105E, kX11_carryOut_108, kX11_carryOut_109, kX11_carryOut_110, kX11_carryOut_113, kX11_carryOut_114, kX11_carryOut_117, kX11_carryOut_118, kX11_carryOut_121, kX11_carryOut_122, kX11_carryOut_125E, kX11_carryOut_128, kX11_carryOut_129, kX11_carryOut_130, kX11_carryOut_133, kX11_carryOut_134, kX11_carryOut_137E, kX11_carryOut_140, kX11_carryOut_141, kX11_carryOut_142, kX11_carryOut_143, kX11_carryOut_146E, kX11_carryOut_149, kX11_carryOut_150, kX11_carryOut_151r, kX11_carryOut_151n, kX11_carryOut_154, kX11_carryOut_156, kX11_carryOut_157, kX11_carryOut_158, kX11_carryOut_161, kX11_carryOut_192, kX11_carryOut_193, kX11_carryOut_194, kX11_carryOut_197, kX11_carryOut_198, kX11_carryOut_201E, kX11_carryOut_204, kX11_carryOut_205, kX11_carryOut_206, kX11_carryOut_207, kX11_carryOut_210, kX11_carryOut_211, kX11_carryOut_214E, kX11_carryOut_217, kX11_carryOut_218, kX11_carryOut_219, kX11_carryOut_220, kX11_carryOut_223, kX11_carryOut_224, kX11_carryOut_225, kX11_carryOut_228, kX11_carryOut_229, kX11_carryOut_232E, kX11_carryOut_235, kX11_carryOut_236, kX11_carryOut_237, kX11_carryOut_238, kX11_carryOut_241, kX11_carryOut_242, kX11_carryOut_243, kX11_carryOut_246, kX11_carryOut_247, kX11_carryOut_250E, kX11_carryOut_253, kX11_carryOut_254, kX11_carryOut_255, kX11_carryOut_256, kX11_carryOut_259, kX11_carryOut_262, kX11_carryOut_263, kX11_carryOut_264, kX11_carryOut_267, kX11_carryOut_268, kX11_carryOut_270E, kX11_carryOut_273, kX11_carryOut_274, kX11_carryOut_277, kX11_carryOut_278, kX11_carryOut_281, kX11_carryOut_282, q_cut_i, q_cut_r, q_cut_l, q_cut_n, q_psh_n, q_psh_s, bI_eq0, ite_not, ↓if_pos, ↓if_neg, ↓ite_bI_t, ↓ite_bI_f, o0, o1, o3, o4, hpy, T_of c1]
      rfl
    · -- merge
      obtain ⟨a1, a2, a3, a4⟩ := cNo_4 hno
      obtain ⟨b1, b2, b3, b4, b5, b6⟩ := cNoE_0 a1
      obtain ⟨p, rfl⟩ : ∃ p : Nat, f = p := ⟨f.toNat, by omega⟩
      obtain ⟨j, rfl⟩ : ∃ j : Nat, e = j := ⟨e.toNat, by omega⟩
      obtain ⟨M1, g1, cT1, c1, w1, f1, e1, r1⟩ := vX11_takeIn (d := d) (p := p) (j := j) (y := y) hg hw h.1 (by omega) (by omega) (fun i hi => by have := bP i hi; omega) ⟨by omega, by omega⟩ (by omega)
      have z := CMm_w hg h f1 (fun s hs => hs) w1
      refine ⟨M1, g1, cN, cT1, c, C_of (fun P => ?_), z.1, z.2, fun s hs => e1 s (by omega), gC.w r1⟩
      have hpy := fun x : QP => uX11_placeY (d := d + 3) (x := x) h.1.1 (p := p) (by omega) (by omega)
      rw [q_toN] at hpy
      rw [eX11_carryOut]
      simp (disch := first | assumption | exact bI_lo | exact bI_hi | exact bI_01 | (show (List.map q_wd _).sum ≤ 8; with_unfolding_all exact Nat.le_of_ble_eq_true rfl) | omega) only [kX11_carryOut_0, kX11_carryOut_1r, kX11_carryOut_1n, kX11_carryOut_4, kX11_carryOut_6, kX11_carryOut_7, kX11_carryOut_8, kX11_carryOut_11, kX11_carryOut_60, kX11_carryOut_61, kX11_carryOut_62, kX11_carryOut_65, kX11_carryOut_66, kX11_carryOut_69, kX11_carryOut_72, kX11_carryOut_74, kX11_carryOut_77, kX11_carryOut_78, kX11_carryOut_81, kX11_carryOut_82, kX11_carryOut_85, kX11_carryOut_86, kX11_carryOut_89E, kX11_carryOut_92, kX11_carryOut_93, kX11_carryOut_94, kX11_carryOut_97, kX11_carryOut_98, kX11_carryOut_101, kX11_carryOut_102, kX11_carryOut_105E, kX11_carryOut_108, kX11_carryOut_109, kX11_carryOut_110, kX11_carryOut_113, kX11_carryOut_114, kX11_carryOut_117, kX11_carryOut_118, kX11_carryOut_121, kX11_carryOut_122, kX11_carryOut_125E, kX11_carryOut_128, kX11_carryOut_129, kX11_carryOut_130, kX11_carryOut_133, kX11_carryOut_134, kX11_carryOut_137E, kX11_carryOut_140, kX11_carryOut_141, kX11_carryOut_142, kX11_carryOut_143, kX11_carryOut_146E, kX11_carryOut_149, kX11_carryOut_150, kX11_carryOut_151r, kX11_carryOut_151n, kX11_carryOut_154, kX11_carryOut_156, kX11_carryOut_157, kX11_carryOut_158, kX11_carryOut_161, kX11_carryOut_192, kX11_carryOut_193, kX11_carryOut_194, kX11_carryOut_197, kX11_carryOut_198, kX11_carryOut_201E, kX11_carryOut_204, kX11_carryOut_205, kX11_carryOut_206, kX11_carryOut_207, kX11_carryOut_210, kX11_carryOut_211, kX11_carryOut_214E, kX11_carryOut_217, kX11_carryOut_218, kX11_carryOut_219, kX11_carryOut_220, kX11_carryOut_223, kX11_carryOut_224, kX11_carryOut_225, kX11_carryOut_228, kX11_carryOut_229, kX11_carryOut_232E, kX11_carryOut_235, kX11_carryOut_236, kX11_carryOut_237, kX11_carryOut_238, kX11_carryOut_241, kX11_carryOut_242, kX11_carryOut_243, kX11_carryOut_246, kX11_carryOut_247, kX11_carryOut_250E, kX11_carryOut_253, kX11_carryOut_254, kX11_carryOut_255, kX11_carryOut_256, kX11_carryOut_259, kX11_carryOut_262, kX11_carryOut_263, kX11_carryOut_264, kX11_carryOut_267, kX11_carryOut_268, kX11_carryOut_270E, kX11_carryOut_273, kX11_carryOut_274, kX11_carryOut_277, kX11_carryOut_278, kX11_carryOut_281, kX11_carryOut_282, q_cut_i, q_cut_r, q_cut_l, q_cut_n, q_psh_n, q_psh_s, bI_eq0, ite_not, ↓if_pos, ↓if_neg, ↓ite_bI_t, ↓ite_bI_f, o0, o1, o2, o3, hpy, T_of c1]
      rfl
    · -- close
      obtain ⟨a1, a2⟩ := cNo_5 hno
      obtain ⟨b1, b2, b3, b4, b5, b6⟩ := cNoE_0 a1
      obtain ⟨p, rfl⟩ : ∃ p : Nat, f = p := ⟨f.toNat, by omega⟩
      have bp := bP p (by omega)
      have s1 := wSe (v := y) hg hw h.1 (i := p) (by omega) ⟨by omega, by omega⟩
      obtain ⟨M2, c2, w2, f2, q2⟩ := wRem (d := d + 2) (i := p) (a := y) (b := 4) (c := -5) s1.2.2.2.2.1 s1.2.2.2.2.2 s1.1 (by omega) (by rw [upF_s]; exact Nat.lt_of_le_of_lt bp.2.2.1 (by omega)) ⟨by omega, by omega⟩ ⟨by omega, by omega⟩ ⟨by omega, by omega⟩
      rw [upF_up, upF_s] at w2
      have z := CMm_w hg h (s1.2.tr f2) (fun s hs => Or.inr (row_w hs)) w2
      refine ⟨M2, g, cN, cT, c, C_of (fun P => ?_), z.1, z.2, fun _ _ => rfl, gC.w (gW.qt (q_qt.wr.tr q2))⟩
      have hpy := fun x : QP => uX11_placeY (d := d + 3) (x := x) h.1.1 (p := p) (by omega) (by omega)
      rw [q_toN] at hpy
      have hp := (h.1.1.2.2.2.2.2 p (by omega)).2
      have hp2 := (w2.1.2.2.2.2.2 p (by omega)).2
      rw [upF_s] at hp2
      have k2 := PLr_0 hp2
      have v2 : q_fv M2 (gA g p 0) 1 = qi (plF (cW C p)) := PLr_f1 (p := plRem (plSe (cW C p) y) y 4 (-5)) hp2
      have bF := plF_b (PLr_ok hp)
      have no : o ≠ gA g p 0 := fun z => by rw [z, PLr_0 hp] at ko; simp at ko
      have so : Sm M M2 o := by
        have l1 : o < q_top M := hw.lt (by rw [ko]; simp)
        refine Sm_fr (s1.2.tr f2).1 l1 ?_
        rintro ⟨t, ht, hS, ez⟩
        have hT : ∃ k, k < 11 ∧ t = 24 + 11 * p + k := ⟨t - (24 + 11 * p), by unfold rowS at hS; omega, by unfold rowS at hS; omega⟩
        obtain ⟨k, hk, rfl⟩ := hT
        have hkk := PLr_kk hp k hk
        exact hkk (by rw [show gA g p k = o from ez.symm, ko])
      have u3 : q_fv M2 o 3 = qi y := by rw [so.2, o3]
      have u0 : q_kd M2 o = (1, 3) := by rw [so.1, ko]
      have u3' : q_fv (q_wr M (gA g p 0) 2 (qi y)) o 3 = qi y := by rw [q_fv_wrE, if_neg (fun z => no z.1), o3]
      rw [eX11_carryOut]
      simp (disch := first | assumption | exact PLr_0 hp | exact bI_lo | exact bI_hi | exact bI_01 | (show (List.map q_wd _).sum ≤ 8; with_unfolding_all exact Nat.le_of_ble_eq_true rfl) | omega | (simp only [q_kd_wr]; first | assumption | exact PLr_0 hp)) only [kX11_carryOut_0, kX11_carryOut_1r, kX11_carryOut_1n, kX11_carryOut_4, kX11_carryOut_6, kX11_carryOut_7, kX11_carryOut_8, kX11_carryOut_11, kX11_carryOut_60, kX11_carryOut_61, kX11_carryOut_62, kX11_carryOut_65, kX11_carryOut_66, kX11_carryOut_69, kX11_carryOut_72, kX11_carryOut_74, kX11_carryOut_77, kX11_carryOut_78, kX11_carryOut_81, kX11_carryOut_82, kX11_carryOut_85, kX11_carryOut_86, kX11_carryOut_89E, kX11_carryOut_92, kX11_carryOut_93, kX11_carryOut_94, kX11_carryOut_97, kX11_carryOut_98, kX11_carryOut_101, kX11_carryOut_102, kX11_carryOut_105E, kX11_carryOut_108, kX11_carryOut_109, kX11_carryOut_110, kX11_carryOut_113, kX11_carryOut_114, kX11_carryOut_117, kX11_carryOut_118, kX11_carryOut_121, kX11_carryOut_122, kX11_carryOut_125E, kX11_carryOut_128, kX11_carryOut_129, kX11_carryOut_130, kX11_carryOut_133, kX11_carryOut_134, kX11_carryOut_137E, kX11_carryOut_140, kX11_carryOut_141, kX11_carryOut_142, kX11_carryOut_143, kX11_carryOut_146E, kX11_carryOut_149, kX11_carryOut_150, kX11_carryOut_151r, kX11_carryOut_151n, kX11_carryOut_154, kX11_carryOut_156, kX11_carryOut_157, kX11_carryOut_158, kX11_carryOut_161, kX11_carryOut_192, kX11_carryOut_193, kX11_carryOut_194, kX11_carryOut_197, kX11_carryOut_198, kX11_carryOut_201E, kX11_carryOut_204, kX11_carryOut_205, kX11_carryOut_206, kX11_carryOut_207, kX11_carryOut_210, kX11_carryOut_211, kX11_carryOut_214E, kX11_carryOut_217, kX11_carryOut_218, kX11_carryOut_219, kX11_carryOut_220, kX11_carryOut_223, kX11_carryOut_224, kX11_carryOut_225, kX11_carryOut_228, kX11_carryOut_229, kX11_carryOut_232E, kX11_carryOut_235, kX11_carryOut_236, kX11_carryOut_237, kX11_carryOut_238, kX11_carryOut_241, kX11_carryOut_242, kX11_carryOut_243, kX11_carryOut_246, kX11_carryOut_247, kX11_carryOut_250E, kX11_carryOut_253, kX11_carryOut_254, kX11_carryOut_255, kX11_carryOut_256, kX11_carryOut_259, kX11_carryOut_262, kX11_carryOut_263, kX11_carryOut_264, kX11_carryOut_267, kX11_carryOut_268, kX11_carryOut_270E, kX11_carryOut_273, kX11_carryOut_274, kX11_carryOut_277, kX11_carryOut_278, kX11_carryOut_281, kX11_carryOut_282, q_cut_i, q_cut_r, q_cut_l, q_cut_n, q_psh_n, q_psh_s, bI_eq0, ite_not, ↓if_pos, ↓if_neg, ↓ite_bI_t, ↓ite_bI_f, o0, o1, o3, hpy, u3', T_of c2, u3, v2]
      rfl
  · have hs : s = 6 := hs
    subst hs
    obtain ⟨M1, g1, c1', c1, l1, f1, e1, h1, r1⟩ := vX0_addLeaf (d := d + 1) (s := f) (v := e) hg hw h.2.1 h.2.2 hO8 (by omega) ⟨r11, r12⟩ ⟨r21, r22⟩
    have z := CMm_f hg h f1 e1 l1 h1
    refine ⟨M1, g1, cN, cT, c1', C_of (fun P => ?_), z.1, z.2.1, z.2.2, gC.f r1⟩
    rw [eX11_carryOut]
    simp (disch := first | assumption | exact bI_lo | exact bI_hi | exact bI_01 | (show (List.map q_wd _).sum ≤ 8; with_unfolding_all exact Nat.le_of_ble_eq_true rfl) | omega) only [kX11_carryOut_0, kX11_carryOut_1r, kX11_carryOut_1n, kX11_carryOut_4, kX11_carryOut_6, kX11_carryOut_7, kX11_carryOut_8, kX11_carryOut_11, kX11_carryOut_60, kX11_carryOut_61, kX11_carryOut_62, kX11_carryOut_65, kX11_carryOut_66, kX11_carryOut_69, kX11_carryOut_72, kX11_carryOut_74, kX11_carryOut_77, kX11_carryOut_78, kX11_carryOut_81, kX11_carryOut_82, kX11_carryOut_85, kX11_carryOut_86, kX11_carryOut_89E, kX11_carryOut_92, kX11_carryOut_93, kX11_carryOut_94, kX11_carryOut_97, kX11_carryOut_98, kX11_carryOut_101, kX11_carryOut_102, kX11_carryOut_105E, kX11_carryOut_108, kX11_carryOut_109, kX11_carryOut_110, kX11_carryOut_113, kX11_carryOut_114, kX11_carryOut_117, kX11_carryOut_118, kX11_carryOut_121, kX11_carryOut_122, kX11_carryOut_125E, kX11_carryOut_128, kX11_carryOut_129, kX11_carryOut_130, kX11_carryOut_133, kX11_carryOut_134, kX11_carryOut_137E, kX11_carryOut_140, kX11_carryOut_141, kX11_carryOut_142, kX11_carryOut_143, kX11_carryOut_146E, kX11_carryOut_149, kX11_carryOut_150, kX11_carryOut_151r, kX11_carryOut_151n, kX11_carryOut_154, kX11_carryOut_156, kX11_carryOut_157, kX11_carryOut_158, kX11_carryOut_161, kX11_carryOut_192, kX11_carryOut_193, kX11_carryOut_194, kX11_carryOut_197, kX11_carryOut_198, kX11_carryOut_201E, kX11_carryOut_204, kX11_carryOut_205, kX11_carryOut_206, kX11_carryOut_207, kX11_carryOut_210, kX11_carryOut_211, kX11_carryOut_214E, kX11_carryOut_217, kX11_carryOut_218, kX11_carryOut_219, kX11_carryOut_220, kX11_carryOut_223, kX11_carryOut_224, kX11_carryOut_225, kX11_carryOut_228, kX11_carryOut_229, kX11_carryOut_232E, kX11_carryOut_235, kX11_carryOut_236, kX11_carryOut_237, kX11_carryOut_238, kX11_carryOut_241, kX11_carryOut_242, kX11_carryOut_243, kX11_carryOut_246, kX11_carryOut_247, kX11_carryOut_250E, kX11_carryOut_253, kX11_carryOut_254, kX11_carryOut_255, kX11_carryOut_256, kX11_carryOut_259, kX11_carryOut_262, kX11_carryOut_263, kX11_carryOut_264, kX11_carryOut_267, kX11_carryOut_268, kX11_carryOut_270E, kX11_carryOut_273, kX11_carryOut_274, kX11_carryOut_277, kX11_carryOut_278, kX11_carryOut_281, kX11_carryOut_282, q_cut_i, q_cut_r, q_cut_l, q_cut_n, q_psh_n, q_psh_s, bI_eq0, ite_not, ↓if_pos, ↓if_neg, ↓ite_bI_t, ↓ite_bI_f, o0, o1, o2, fw, T_of c1]
    rfl
  · have hs : s = 7 := hs
    subst hs
    obtain ⟨M1, g1, c1', c1, l1, f1, e1, h1, r1⟩ := vX0_addJoined (d := d + 1) (w := y) (a := f) (b := e) hg hw h.2.1 h.2.2 hO8 (by omega) hhow hfst ⟨r21, r22⟩
    have z := CMm_f hg h f1 e1 l1 h1
    refine ⟨M1, g1, cN, cT, c1', C_of (fun P => ?_), z.1, z.2.1, z.2.2, gC.f r1⟩
    rw [eX11_carryOut]
    simp (disch := first | assumption | exact bI_lo | exact bI_hi | exact bI_01 | (show (List.map q_wd _).sum ≤ 8; with_unfolding_all exact Nat.le_of_ble_eq_true rfl) | omega) only [kX11_carryOut_0, kX11_carryOut_1r, kX11_carryOut_1n, kX11_carryOut_4, kX11_carryOut_6, kX11_carryOut_7, kX11_carryOut_8, kX11_carryOut_11, kX11_carryOut_60, kX11_carryOut_61, kX11_carryOut_62, kX11_carryOut_65, kX11_carryOut_66, kX11_carryOut_69, kX11_carryOut_72, kX11_carryOut_74, kX11_carryOut_77, kX11_carryOut_78, kX11_carryOut_81, kX11_carryOut_82, kX11_carryOut_85, kX11_carryOut_86, kX11_carryOut_89E, kX11_carryOut_92, kX11_carryOut_93, kX11_carryOut_94, kX11_carryOut_97, kX11_carryOut_98, kX11_carryOut_101, kX11_carryOut_102, kX11_carryOut_105E, kX11_carryOut_108, kX11_carryOut_109, kX11_carryOut_110, kX11_carryOut_113, kX11_carryOut_114, kX11_carryOut_117, kX11_carryOut_118, kX11_carryOut_121, kX11_carryOut_122, kX11_carryOut_125E, kX11_carryOut_128, kX11_carryOut_129, kX11_carryOut_130, kX11_carryOut_133, kX11_carryOut_134, kX11_carryOut_137E, kX11_carryOut_140, kX11_carryOut_141, kX11_carryOut_142, kX11_carryOut_143, kX11_carryOut_146E, kX11_carryOut_149, kX11_carryOut_150, kX11_carryOut_151r, kX11_carryOut_151n, kX11_carryOut_154, kX11_carryOut_156, kX11_carryOut_157, kX11_carryOut_158, kX11_carryOut_161, kX11_carryOut_192, kX11_carryOut_193, kX11_carryOut_194, kX11_carryOut_197, kX11_carryOut_198, kX11_carryOut_201E, kX11_carryOut_204, kX11_carryOut_205, kX11_carryOut_206, kX11_carryOut_207, kX11_carryOut_210, kX11_carryOut_211, kX11_carryOut_214E, kX11_carryOut_217, kX11_carryOut_218, kX11_carryOut_219, kX11_carryOut_220, kX11_carryOut_223, kX11_carryOut_224, kX11_carryOut_225, kX11_carryOut_228, kX11_carryOut_229, kX11_carryOut_232E, kX11_carryOut_235, kX11_carryOut_236, kX11_carryOut_237, kX11_carryOut_238, kX11_carryOut_241, kX11_carryOut_242, kX11_carryOut_243, kX11_carryOut_246, kX11_carryOut_247, kX11_carryOut_250E, kX11_carryOut_253, kX11_carryOut_254, kX11_carryOut_255, kX11_carryOut_256, kX11_carryOut_259, kX11_carryOut_262, kX11_carryOut_263, kX11_carryOut_264, kX11_carryOut_267, kX11_carryOut_268, kX11_carryOut_270E, kX11_carryOut_273, kX11_carryOut_274, kX11_carryOut_277, kX11_carryOut_278, kX11_carryOut_281, kX11_carryOut_282, q_cut_i, q_cut_r, q_cut_l, q_cut_n, q_psh_n, q_psh_s, bI_eq0, ite_not, ↓if_pos, ↓if_neg, ↓ite_bI_t, ↓ite_bI_f, o0, o1, o2, o3, fw, T_of c1]
    rfl
  · have hs : s = 8 := hs
    subst hs
    have hf1 : 0 ≤ f := hfst.1
    have hf2 : f < (cFO C).length := hfst.2
    obtain ⟨p, rfl⟩ : ∃ p : Nat, f = p := ⟨f.toNat, by omega⟩
    obtain ⟨M1, c1, l1, f1, q1⟩ := vX0_remove (d := d + 2) (k := p) hg hw h.2.1 (by omega)
    have z := CMm_f hg h f1 rfl l1 h.2.2
    refine ⟨M1, g, cN, cT, c, C_of (fun P => ?_), z.1, z.2.1, z.2.2, gC.f (q_gr.rf q1)⟩
    rw [eX11_carryOut]
    simp (disch := first | assumption | exact bI_lo | exact bI_hi | exact bI_01 | (show (List.map q_wd _).sum ≤ 8; with_unfolding_all exact Nat.le_of_ble_eq_true rfl) | omega) only [kX11_carryOut_0, kX11_carryOut_1r, kX11_carryOut_1n, kX11_carryOut_4, kX11_carryOut_6, kX11_carryOut_7, kX11_carryOut_8, kX11_carryOut_11, kX11_carryOut_60, kX11_carryOut_61, kX11_carryOut_62, kX11_carryOut_65, kX11_carryOut_66, kX11_carryOut_69, kX11_carryOut_72, kX11_carryOut_74, kX11_carryOut_77, kX11_carryOut_78, kX11_carryOut_81, kX11_carryOut_82, kX11_carryOut_85, kX11_carryOut_86, kX11_carryOut_89E, kX11_carryOut_92, kX11_carryOut_93, kX11_carryOut_94, kX11_carryOut_97, kX11_carryOut_98, kX11_carryOut_101, kX11_carryOut_102, kX11_carryOut_105E, kX11_carryOut_108, kX11_carryOut_109, kX11_carryOut_110, kX11_carryOut_113, kX11_carryOut_114, kX11_carryOut_117, kX11_carryOut_118, kX11_carryOut_121, kX11_carryOut_122, kX11_carryOut_125E, kX11_carryOut_128, kX11_carryOut_129, kX11_carryOut_130, kX11_carryOut_133, kX11_carryOut_134, kX11_carryOut_137E, kX11_carryOut_140, kX11_carryOut_141, kX11_carryOut_142, kX11_carryOut_143, kX11_carryOut_146E, kX11_carryOut_149, kX11_carryOut_150, kX11_carryOut_151r, kX11_carryOut_151n, kX11_carryOut_154, kX11_carryOut_156, kX11_carryOut_157, kX11_carryOut_158, kX11_carryOut_161, kX11_carryOut_192, kX11_carryOut_193, kX11_carryOut_194, kX11_carryOut_197, kX11_carryOut_198, kX11_carryOut_201E, kX11_carryOut_204, kX11_carryOut_205, kX11_carryOut_206, kX11_carryOut_207, kX11_carryOut_210, kX11_carryOut_211, kX11_carryOut_214E, kX11_carryOut_217, kX11_carryOut_218, kX11_carryOut_219, kX11_carryOut_220, kX11_carryOut_223, kX11_carryOut_224, kX11_carryOut_225, kX11_carryOut_228, kX11_carryOut_229, kX11_carryOut_232E, kX11_carryOut_235, kX11_carryOut_236, kX11_carryOut_237, kX11_carryOut_238, kX11_carryOut_241, kX11_carryOut_242, kX11_carryOut_243, kX11_carryOut_246, kX11_carryOut_247, kX11_carryOut_250E, kX11_carryOut_253, kX11_carryOut_254, kX11_carryOut_255, kX11_carryOut_256, kX11_carryOut_259, kX11_carryOut_262, kX11_carryOut_263, kX11_carryOut_264, kX11_carryOut_267, kX11_carryOut_268, kX11_carryOut_270E, kX11_carryOut_273, kX11_carryOut_274, kX11_carryOut_277, kX11_carryOut_278, kX11_carryOut_281, kX11_carryOut_282, q_cut_i, q_cut_r, q_cut_l, q_cut_n, q_psh_n, q_psh_s, bI_eq0, ite_not, ↓if_pos, ↓if_neg, ↓ite_bI_t, ↓ite_bI_f, o0, o1, fw, T_of c1]
    rfl
end CAR
