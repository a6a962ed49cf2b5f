
/-! blocks: what leaves them, and how marks move -/
def bk (S : RS) (k : Int) : Int → Int := fun j => S 1 (13475 * k + j)
theorem bk_0 {S : RS} : bk S 0 = S 1 := by
  funext j
  unfold bk
  rw [show 13475 * (0 : Int) + j = j by omega]
section BLK
variable {S T U : RS}
theorem rHap_hi {p y so nu j : Int} (hp : p < 20) (hj : 13475 ≤ j) : rHap S p y so nu 1 j = S 1 j := by
  unfold rHap
  split
  · rw [up_j (by omega), up_j (by omega), up_j (by omega), up_j (by omega)]
  · rw [up_j (by omega)]
theorem rTell_hi {p y par j : Int} (h2 : S 1 2 < 1000) (hj : 13475 ≤ j) : rTell S p y par 1 j = S 1 j := rTell_o (by omega) (by omega)
theorem rNms_hi {p y j : Int} (h1 : S 1 1 < 1000) (h9 : S 0 9 ≤ 8) (hj : 13475 ≤ j) : rNms S p y 1 j = S 1 j := rNms_o (by omega) (by omega) h9
theorem rF1_hi {k y j : Int} (h0 : S 1 0 < 20) (hj : 13475 ≤ j) : rF1 S k y 1 j = S 1 j := rF1_o (by omega) (by omega)
theorem rFou_hi {k par y j : Int} (g0 : 0 ≤ S 1 0) (h0 : S 1 0 < 20) (g1 : 0 ≤ S 1 1) (h1 : S 1 1 < 700) (g2 : 0 ≤ S 1 2) (h2 : S 1 2 < 700) (h9 : S 0 9 ≤ 8) (hj : 13475 ≤ j) : rFou S k par y 1 j = S 1 j := by
  have a1 : rF1 S k y 1 1 = S 1 1 := rF1_o (by omega) (by omega)
  have a2 : rF1 S k y 1 2 = S 1 2 := rF1_o (by omega) (by omega)
  have a9 : rF1 S k y 0 9 = S 0 9 := by rw [rF1_k (by omega)]
  unfold rFou
  rw [rHap_hi h0 hj]
  split
  · rw [rNms_hi (by rw [rTell_o (by omega) (by omega), a1]; omega) (by rw [rTell_k (by omega), a9]; exact h9) hj, rTell_hi (by omega) hj, rF1_hi h0 hj]
  · rw [rNms_hi (by omega) (by omega) hj, rF1_hi h0 hj]
theorem rMl_hi {p into y j : Int} {N : Nat} (hj : 13475 ≤ j) : ∀ n : Nat, n ≤ 20 → (rMl T p into y N n).1 1 j = T 1 j
  | 0, _ => rfl
  | n + 1, hn => by
    rw [rMl]
    split
    · exact rMl_hi hj n (by omega)
    · show rHap _ _ _ _ _ 1 j = _
      rw [rHap_hi (by omega) hj, rMl_hi hj n (by omega)]
theorem rMl_2 {p into y : Int} {N : Nat} (h0 : ∀ q : Nat, q < 20 → 0 ≤ T 1 (15 + 78 * (q : Int) + 5)) : ∀ n : Nat, n ≤ 20 → (rMl T p into y N n).1 1 2 = T 1 2 ∧ ∀ q : Nat, q < 20 → 0 ≤ (rMl T p into y N n).1 1 (15 + 78 * (q : Int) + 5)
  | 0, _ => ⟨rfl, h0⟩
  | n + 1, hn => by
    obtain ⟨i1, i2⟩ := rMl_2 h0 n (by omega)
    rw [rMl]
    split
    · exact ⟨i1, i2⟩
    · have hn5 := i2 n (by omega)
      refine ⟨?_, fun q hq => ?_⟩
      · show rHap _ _ _ _ _ 1 2 = _
        rw [rHap_o hn5 (by omega), i1]
      · show 0 ≤ rHap _ _ _ _ _ 1 _
        by_cases e : q = n
        · rw [e, rHap_5 hn5]; omega
        · rw [rHap_o hn5 (by omega)]; exact i2 q hq
theorem rOp_hi {cc a b y : Int} {n N NP : Nat} {j : Int} (hj : 13475 ≤ j) (h9 : S 0 9 ≤ 8) (hb : RB S n N NP) (hN : N < 700) (hNP : NP < 700) (hc : cc = 102 ∨ cc = 114 ∨ cc = 109 ∨ cc = 115 ∨ cc = 103 ∨ cc = 99) (g : rNo S cc a b y NP n = 0) : rOp S cc a b y NP n 1 j = S 1 j := by
  obtain ⟨hn, hn2, e1, e2, b5, b6, b7, b8, b9, b10, b11⟩ := hb
  rcases hc with rfl | rfl | rfl | rfl | rfl | rfl
  · have g : rNoF S a b y = 0 := g
    obtain ⟨f1, f2, f3, f4⟩ := rNoF_0 g
    exact rFou_hi (by omega) (by omega) (by omega) (by omega) (by omega) (by omega) h9 hj
  · have g : rNoE S a y = 0 := g
    obtain ⟨f1, f2, -⟩ := rNoE_0 g
    show rRen S a y 1 j = _
    unfold rRen
    rw [rHap_hi (by omega) hj, up_j (by omega), rNms_hi (by omega) h9 hj]
  · have g : rNoM S a b y = 0 := g
    obtain ⟨f1, f2, f3, f4, f5⟩ := rNoM_0 g
    show rMov S a b y 1 j = _
    unfold rMov
    rw [rHap_hi (by omega) hj, up_j (by omega), rTell_hi (by omega) hj]
  · have g : rNoS S a y NP = 0 := g
    obtain ⟨f1, f2, f3⟩ := rNoS_0 g
    obtain ⟨k1, k2, -⟩ := rNoE_0 f1
    show rSpl S a y NP 1 j = _
    unfold rSpl
    dsimp only
    rw [up_j (by omega), rHap_hi (by omega) hj, up_j (by omega), rHap_hi (by omega) hj, rFou_hi (by omega) (by omega) (by omega) (by omega) (by omega) (by omega) h9 hj]
  · have g : rNoG S a b y = 0 := g
    obtain ⟨f1, f2, f3, f4, f5, f6⟩ := rNoG_0 g
    have z5 : ∀ q : Nat, q < 20 → 0 ≤ rM0 S a b y 1 (15 + 78 * (q : Int) + 5) := fun q hq => by
      have x1 : ∀ q : Int, 0 ≤ q → q < 20 → 0 ≤ up S 1 (15 + 78 * a + 4) y 1 (15 + 78 * q + 5) := fun q h1 h2 => by rw [up_j (by omega)]; exact (b5 q h1 h2).1
      have x2 : ∀ q : Int, 0 ≤ q → q < 20 → 0 ≤ rHap (up S 1 (15 + 78 * a + 4) y) a y 3 b 1 (15 + 78 * q + 5) := fun q h1 h2 => by
        by_cases e : q = a
        · rw [e, rHap_5 (x1 a (by omega) (by omega))]; have := x1 a (by omega) (by omega); omega
        · rw [rHap_o (x1 a (by omega) (by omega)) (by omega)]; exact x1 q h1 h2
      unfold rM0
      by_cases e : (q : Int) = b
      · rw [e, rHap_5 (x2 b (by omega) (by omega))]; have := x2 b (by omega) (by omega); omega
      · rw [rHap_o (x2 b (by omega) (by omega)) (by omega)]; exact x2 q (by omega) (by omega)
    have z2 : rM0 S a b y 1 2 = S 1 2 := by
      have y1 : 0 ≤ up S 1 (15 + 78 * a + 4) y 1 (15 + 78 * a + 5) := by rw [up_j (by omega)]; exact (b5 a (by omega) (by omega)).1
      have y2 : 0 ≤ rHap (up S 1 (15 + 78 * a + 4) y) a y 3 b 1 (15 + 78 * b + 5) := by rw [rHap_o y1 (by omega), up_j (by omega)]; exact (b5 b (by omega) (by omega)).1
      unfold rM0
      rw [rHap_o y2 (by omega), rHap_o y1 (by omega), up_j (by omega)]
    show rMrg S a b y NP n 1 j = _
    unfold rMrg
    dsimp only
    rw [up_j (by omega), rTell_hi (by rw [up_j (by omega), up_j (by omega), (rMl_2 z5 n hn2).1, z2]; omega) hj, up_j (by omega), up_j (by omega), rMl_hi hj n hn2]
    unfold rM0
    rw [rHap_hi (by omega) hj, rHap_hi (by omega) hj, up_j (by omega)]
  · have g : rNoC S a y NP n = 0 := g
    obtain ⟨f1, f2⟩ := rNoC_0 g
    obtain ⟨k1, k2, -⟩ := rNoE_0 f1
    show rClo S a y 1 j = _
    unfold rClo
    rw [rHap_hi (by omega) hj, up_j (by omega), up_j (by omega)]
theorem rPrt_hi {w a b j : Int} (h3 : S 1 3 < 700) (h4 : S 1 4 < 8) (hj : 13475 ≤ j) : rPrt S w a b 1 j = S 1 j := by
  unfold rPrt
  rw [up_j (by omega), up_j (by omega), up_j (by omega), up_j (by omega), up_j (by omega), up_j (by omega)]
theorem rDr_hi {f j : Int} {c : Nat} (h : f + c ≤ 8) (hj : 13475 ≤ j) : rDr S f c 1 j = S 1 j := by
  unfold rDr
  rw [if_neg (by omega)]
/-- the marks, moved by one more -/
theorem rSh_i {k : Nat} {j : Int} (h1 : 1 ≤ k) (h6 : k ≤ 5) (j0 : 0 ≤ j) (j1 : j < 13475) : rSh S 1 (13475 * (k : Int) + j) = S 1 (13475 * ((k : Int) + 1) + j) := by
  have hh : k = 1 ∨ k = 2 ∨ k = 3 ∨ k = 4 ∨ k = 5 := by omega
  unfold rSh
  rcases hh with rfl | rfl | rfl | rfl | rfl
  · rw [rCpN_o (by omega), rCpN_o (by omega), rCpN_o (by omega), rCpN_o (by omega)]
    exact (rCpN_i j0 (by omega)).trans (congrArg _ (by omega))
  · rw [rCpN_o (by omega), rCpN_o (by omega), rCpN_o (by omega)]
    refine (rCpN_i j0 (by omega)).trans ?_
    rw [rCpN_o (by omega)]
    exact congrArg _ (by omega)
  · rw [rCpN_o (by omega), rCpN_o (by omega)]
    refine (rCpN_i j0 (by omega)).trans ?_
    rw [rCpN_o (by omega), rCpN_o (by omega)]
    exact congrArg _ (by omega)
  · rw [rCpN_o (by omega)]
    refine (rCpN_i j0 (by omega)).trans ?_
    rw [rCpN_o (by omega), rCpN_o (by omega), rCpN_o (by omega)]
    exact congrArg _ (by omega)
  · refine (rCpN_i j0 (by omega)).trans ?_
    rw [rCpN_o (by omega), rCpN_o (by omega), rCpN_o (by omega), rCpN_o (by omega)]
    exact congrArg _ (by omega)
theorem rSh_o {j : Int} (h : j < 13475 ∨ 13475 * 6 ≤ j) : rSh S 1 j = S 1 j := by
  unfold rSh
  rw [rCpN_o (by omega), rCpN_o (by omega), rCpN_o (by omega), rCpN_o (by omega), rCpN_o (by omega)]
theorem rKeep_i {k : Nat} {j : Int} (c0 : 0 ≤ S 0 1) (h1 : 1 ≤ k) (h6 : k ≤ 6) (j0 : 0 ≤ j) (j1 : j < 13475) : rKeep S 1 (13475 * (k : Int) + j) = if S 0 1 = 6 then (if k = 6 then S 1 j else S 1 (13475 * ((k : Int) + 1) + j)) else if (k : Int) = S 0 1 + 1 then S 1 j else S 1 (13475 * (k : Int) + j) := by
  unfold rKeep
  by_cases g : S 0 1 = 6
  · rw [if_pos g, if_pos g]
    by_cases g6 : k = 6
    · rw [if_pos g6, g6]
      refine (rCpN_i j0 (by omega)).trans ?_
      rw [rSh_o (by omega)]
      exact congrArg _ (by omega)
    · rw [if_neg g6, rCpN_o (by omega), rSh_i h1 (by omega) j0 j1]
  · rw [if_neg g, if_neg g]
    by_cases gk : (k : Int) = S 0 1 + 1
    · rw [if_pos gk, gk]
      refine (rCpN_i j0 (by omega)).trans ?_
      rw [up_k (by omega)]
      exact congrArg _ (by omega)
    · rw [if_neg gk, rCpN_o (by omega), up_k (by omega)]
theorem rKeep_7 {j : Int} (c0 : 0 ≤ S 0 1 ∧ S 0 1 ≤ 6) (h : 13475 * 7 ≤ j) : rKeep S 1 j = S 1 j := by
  unfold rKeep
  split
  · rw [rCpN_o (by omega), rSh_o (by omega)]
  · rw [rCpN_o (by omega), up_k (by omega)]
theorem rKeep_01 : rKeep S 0 1 = if S 0 1 = 6 then 6 else S 0 1 + 1 := by
  unfold rKeep rSh
  by_cases g : S 0 1 = 6
  · rw [if_pos g, if_pos g, rCpN_k (by omega), rCpN_k (by omega), rCpN_k (by omega), rCpN_k (by omega), rCpN_k (by omega), rCpN_k (by omega), g]
  · rw [if_neg g, if_neg g, rCpN_k (by omega), up_s]
/-- marks of the class and blocks of the reference -/
def MRK (S : RS) (J : List Od) (ms : List Int) : Prop := S 0 1 = ms.length ∧ ms.length ≤ 6 ∧ (∀ (i : Nat) (v : Int), ms[i]? = some v → ∃ m : Nat, v = m ∧ m ≤ J.length ∧ RJ (J.take m) (bk S (i + 1))) ∧ ms.Pairwise (fun a b => a ≤ b)
theorem MRK_c {J os : List Od} {ms : List Int} (hk : J.length ≤ 600) (h : MRK T J ms) (e1 : U 0 1 = T 0 1) (e : ∀ j : Int, 13475 ≤ j → j < 13475 * 7 → U 1 j = T 1 j) : MRK U (J ++ os) ms := by
  obtain ⟨h1, h2, h3, hso⟩ := h
  refine ⟨by rw [e1, h1], h2, fun i v hv => ?_, hso⟩
  obtain ⟨m, rfl, hm, hr⟩ := h3 i v hv
  have il := getE_lt hv
  refine ⟨m, rfl, by rw [List.length_append]; omega, ?_⟩
  rw [List.take_append_of_le_length hm]
  refine RJ_c hr (by rw [List.length_take]; omega) (fun j j0 j1 => ?_)
  unfold bk
  exact e _ (by omega) (by omega)
theorem MRK_keep {J : List Od} {ms : List Int} (hk : J.length ≤ 600) (hJ : RJ J (S 1)) (h : MRK S J ms) : MRK (rKeep S) J (kpM ms J.length) := by
  obtain ⟨h1, h2, h3, hso⟩ := h
  obtain ⟨l1, l2⟩ := kpM_len (v := (J.length : Int)) h2
  have c0 : 0 ≤ S 0 1 := by omega
  have RJx : ∀ {k : Nat} {L : List Od} {b : Int → Int}, 1 ≤ k → k ≤ 6 → L.length ≤ 600 → RJ L b → (∀ j : Int, 0 ≤ j → j < 13475 → rKeep S 1 (13475 * (k : Int) + j) = b j) → RJ L (bk (rKeep S) k) := fun {k L b} _ _ hl hr e => RJ_c hr hl (fun j j0 j1 => e j j0 j1)
  have hpw : (kpM ms J.length).Pairwise (fun a b => a ≤ b) := by
    unfold kpM
    have le : ∀ x ∈ ms, x ≤ (J.length : Int) := fun x hx => by
      obtain ⟨i, hi⟩ := List.getElem?_of_mem hx
      obtain ⟨m, rfl, hm, -⟩ := h3 i x hi
      omega
    refine List.pairwise_append.mpr ⟨?_, List.pairwise_singleton _ _, fun a ha b hb => ?_⟩
    · split
      · exact hso.sublist (List.tail_sublist ms)
      · exact hso
    · rw [List.mem_singleton.mp hb]
      split at ha
      · exact le a (List.mem_of_mem_tail ha)
      · exact le a ha
  refine ⟨?_, l2, fun i v hv => ?_, hpw⟩
  · rw [rKeep_01, l1, h1]
    by_cases g : (ms.length : Int) = 6
    · rw [if_pos g]; omega
    · rw [if_neg g]; omega
  · have il := getE_lt hv
    have ie : ((i + 1 : Nat) : Int) = (i : Int) + 1 := by omega
    rw [← ie]
    unfold kpM at hv
    by_cases g : ms.length = 6
    · rw [if_pos g] at hv
      have g' : S 0 1 = 6 := by omega
      have tl : ms.tail.length = 5 := by rw [List.length_tail]; omega
      by_cases gi : i < 5
      · rw [List.getElem?_append_left (by omega)] at hv
        rw [List.getElem?_tail] at hv
        obtain ⟨m, rfl, hm, hr⟩ := h3 (i + 1) v hv
        refine ⟨m, rfl, hm, RJx (by omega) (by omega) (by rw [List.length_take]; omega) hr (fun j j0 j1 => ?_)⟩
        rw [rKeep_i c0 (by omega) (by omega) j0 j1, if_pos g', if_neg (by omega)]
        unfold bk
        rw [ie]
      · have i5 : i = 5 := by omega
        rw [i5, List.getElem?_append_right (by omega), tl] at hv
        have ev : (J.length : Int) = v := Option.some.inj hv
        refine ⟨J.length, ev.symm, Nat.le_refl _, RJx (by omega) (by omega) (by rw [List.length_take]; omega) (by rw [List.take_length]; exact hJ) (fun j j0 j1 => ?_)⟩
        rw [rKeep_i c0 (by omega) (by omega) j0 j1, if_pos g', if_pos (by omega)]
    · rw [if_neg g] at hv
      have g' : ¬ S 0 1 = 6 := by omega
      by_cases gi : i < ms.length
      · rw [List.getElem?_append_left gi] at hv
        obtain ⟨m, rfl, hm, hr⟩ := h3 i v hv
        refine ⟨m, rfl, hm, RJx (by omega) (by omega) (by rw [List.length_take]; omega) hr (fun j j0 j1 => ?_)⟩
        rw [rKeep_i c0 (by omega) (by omega) j0 j1, if_neg g', if_neg (by omega)]
        unfold bk
        rw [ie]
      · have i5 : i = ms.length := by omega
        rw [i5, List.getElem?_append_right (by omega), Nat.sub_self] at hv
        have ev : (J.length : Int) = v := Option.some.inj hv
        refine ⟨J.length, ev.symm, Nat.le_refl _, RJx (by omega) (by omega) (by rw [List.length_take]; omega) (by rw [List.take_length]; exact hJ) (fun j j0 j1 => ?_)⟩
        rw [rKeep_i c0 (by omega) (by omega) j0 j1, if_neg g', if_pos (by omega)]
/-- a text that was done whole: the mark is of the time before it -/
theorem MRK_run {J os : List Od} {ms : List Int} (hk : J.length ≤ 600) (hJ : RJ J (S 1)) (h : MRK S J ms) (e1 : U 0 1 = S 0 1) (e : ∀ j : Int, 13475 ≤ j → j < 13475 * 7 → U 1 j = S 1 j) (e8 : ∀ j : Int, 0 ≤ j → j < 13475 → U 1 (13475 * 8 + j) = S 1 j) : MRK (rCpN (rKeep U) 8 (rKeep U 0 1) 13475) (J ++ os) (kpM ms J.length) := by
  have hm := MRK_keep hk hJ h
  have c1 : 0 ≤ S 0 1 ∧ S 0 1 ≤ 6 := by have := h.1; have := h.2.1; omega
  have k1 : rKeep U 0 1 = rKeep S 0 1 := by rw [rKeep_01, rKeep_01, e1]
  have kb : rKeep S 0 1 = (if S 0 1 = 6 then 6 else S 0 1 + 1) := rKeep_01
  refine MRK_c hk hm (by rw [rCpN_k (by omega), k1]) (fun j j0 j1 => ?_)
  obtain ⟨k, i, rfl, hk1, hk6, i0, i1⟩ : ∃ (k : Nat) (i : Int), j = 13475 * (k : Int) + i ∧ 1 ≤ k ∧ k ≤ 6 ∧ 0 ≤ i ∧ i < 13475 := by
    refine ⟨(j / 13475).toNat, j % 13475, ?_, ?_, ?_, ?_, ?_⟩
    all_goals omega
  rw [k1]
  by_cases g : (k : Int) = rKeep S 0 1
  · rw [← g]
    refine (rCpN_i i0 (by omega)).trans ?_
    rw [rKeep_7 (by omega) (by omega), e8 i i0 i1, rKeep_i c1.1 hk1 hk6 i0 i1]
    by_cases g6 : S 0 1 = 6
    · rw [if_pos g6] at kb ⊢
      rw [if_pos (by omega)]
    · rw [if_neg g6] at kb ⊢
      rw [if_pos (by omega)]
  · rw [rCpN_o (by omega), rKeep_i (by omega) hk1 hk6 i0 i1, rKeep_i c1.1 hk1 hk6 i0 i1, e1]
    by_cases g6 : S 0 1 = 6
    · rw [if_pos g6] at kb ⊢
      rw [if_pos g6, if_neg (by omega), if_neg (by omega), e _ (by omega) (by omega)]
    · rw [if_neg g6] at kb ⊢
      rw [if_neg g6, if_neg (by omega), if_neg (by omega), e _ (by omega) (by omega)]
end BLK
