/-! the reference's methods: lookup -/
theorem rOw_k {S : RS} {k : Nat} (h : k ≠ 0) (h2 : k ≠ 3) : rOw S k = S k := by
  unfold rOw
  rw [up_k h]
  split
  · rw [up_k h, up_k h, up_k h, up_k h]
  · rw [rRw_k h h2, up_k h, up_k h]
theorem rOw_0 {S : RS} {j : Int} (h4 : j ≠ 4) (h5 : j ≠ 5) (h6 : j ≠ 6) (h9 : j ≠ 9) : rOw S 0 j = S 0 j := by
  unfold rOw
  rw [up_j h4]
  split
  · rw [up_j h6, up_j h9, up_j h6, up_j h5]
  · rw [rRw_0 h9 h5 h6, up_j h6, up_j h5]
theorem rOw_4 {S : RS} : rOw S 0 4 = 0 := up_s
theorem oneW_c {S : RS} (h : oneW S = true) : 1 ≤ S 0 4 ∧ S 0 4 ≤ 8 ∧ (wCnt (rHr (S 2) (S 0 4)) 9 0 : Int) = S 0 4 := by
  have := of_decide_eq_true h
  omega
theorem rOw_w {S : RS} (h : oneW S = true) : rOw S = up (rW (up (up S 0 5 0) 0 6 (-1)) 0 (S 0 4).toNat) 0 4 0 := by
  have h' := of_decide_eq_true h
  have e4 : up (up S 0 5 0) 0 6 (-1) 0 4 = S 0 4 := by rw [up_j (by omega), up_j (by omega)]
  have e2 : up (up S 0 5 0) 0 6 (-1) 2 = S 2 := by rw [up_k (by omega), up_k (by omega)]
  unfold rOw rRw
  have e : (S 0 4).toNat = wCnt (rHr (S 2) (S 0 4)) 9 0 := by omega
  rw [if_neg (by omega), e4, e2, if_neg (by omega), e]
theorem rOw_9 {S : RS} (h : oneW S = true) : rOw S 0 9 = S 0 4 := by
  have h' := oneW_c h
  rw [rOw_w h, up_j (by omega), rW_09]
  omega
theorem rOw_3 {S : RS} (h : oneW S = true) {i : Int} (h0 : 0 ≤ i) (h1 : i < S 0 4) : rOw S 3 i = S 2 i := by
  rw [rOw_w h, up_k (by omega), rW_3 h0 (by omega), up_k (by omega), up_k (by omega), Int.zero_add]
theorem RG_rOw {S : RS} (hR : RG S) : RG (rOw S) := by
  have R0 : RG (up (up S 0 5 0) 0 6 (-1)) := RG_up (RG_up hR (by omega) (by omega)) (by omega) (by omega)
  have h9 := wCnt_le (rHr (up (up S 0 5 0) 0 6 (-1) 2) (up (up S 0 5 0) 0 6 (-1) 0 4)) 9 0
  unfold rOw
  refine RG_up ?_ (by omega) (by omega)
  split
  · exact RG_up (RG_up R0 (by omega) (by omega)) (by omega) (by omega)
  · unfold rRw
    split
    · exact RG_up (RG_rW R0 (by omega) (by omega) (by omega)) (by omega) (by omega)
    · exact RG_rW R0 (by omega) (by omega) (by omega)
/-- what is found so far -/
def rLq (S : RS) (L : List Int) (f : Int → Int) : RS := fun k j => if k = 6 then f j else if k = 5 ∧ 0 ≤ j ∧ j < L.length then L.getD j.toNat 0 else if k = 0 ∧ j = 13 then L.length else S k j
theorem rLq_13 {S : RS} {L : List Int} {f : Int → Int} : rLq S L f 0 13 = L.length := by
  unfold rLq
  rw [if_neg (by omega), if_neg (by omega), if_pos ⟨rfl, rfl⟩]
theorem rLq_k {S : RS} {L : List Int} {f : Int → Int} {k : Nat} (h : k ≠ 0) (h5 : k ≠ 5) (h6 : k ≠ 6) : rLq S L f k = S k := by
  funext j
  unfold rLq
  rw [if_neg h6, if_neg (by omega), if_neg (by omega)]
theorem rLq_0 {S : RS} {L : List Int} {f : Int → Int} {j : Int} (h : j ≠ 13) : rLq S L f 0 j = S 0 j := by
  unfold rLq
  rw [if_neg (by omega), if_neg (by omega), if_neg (by omega)]
theorem rLq_5 {S : RS} {L : List Int} {f : Int → Int} {i : Nat} (h : i < L.length) : rLq S L f 5 i = L[i] := by
  unfold rLq
  rw [if_neg (by omega), if_pos (by omega), Int.toNat_natCast, List.getD_eq_getElem?_getD, List.getElem?_eq_getElem h]; rfl
theorem rLq_6 {S : RS} {L : List Int} {f g : Int → Int} : rR6 (rLq S L f) g = rLq S L g := by
  funext k j
  unfold rR6 rLq
  split <;> rfl
theorem rLq_z {S : RS} : rLq S [] (S 6) = up S 0 13 0 := by
  funext k j
  unfold rLq up
  by_cases h : k = 6
  · subst h; rw [if_pos rfl, if_neg (by omega)]
  · rw [if_neg h, if_neg (by rintro ⟨-, h1, h2⟩; simp at h2; omega)]; rfl
theorem rLq_s {S : RS} {L : List Int} {f : Int → Int} {c : Int} : up (up (rLq S L f) 5 L.length c) 0 13 ((L.length : Int) + 1) = rLq S (L ++ [c]) f := by
  funext k j
  unfold up rLq
  rw [List.length_append, List.length_singleton]
  by_cases h6 : k = 6
  · subst h6
    rw [if_neg (by omega), if_neg (by omega), if_pos rfl, if_pos rfl]
  · rw [if_neg h6, if_neg h6]
    by_cases h1 : k = 0 ∧ j = 13
    · rw [if_pos h1, if_neg (by omega), if_pos h1]; omega
    · rw [if_neg h1]
      by_cases h2 : k = 5 ∧ j = L.length
      · rw [if_pos h2, if_pos (by omega), List.getD_eq_getElem?_getD, List.getElem?_append_right (by omega), show j.toNat - L.length = 0 by omega]; rfl
      · rw [if_neg h2]
        by_cases h3 : k = 5 ∧ 0 ≤ j ∧ j < L.length
        · rw [if_pos h3, if_pos (by omega), List.getD_eq_getElem?_getD, List.getD_eq_getElem?_getD, List.getElem?_append_left (by omega)]
        · rw [if_neg h3, if_neg h1, if_neg (by omega), if_neg h1]
theorem RG_rLq {S : RS} (hR : RG S) {L : List Int} {f : Int → Int} (hf : q_FR f) (h : ∀ c ∈ L, 0 ≤ c ∧ c ≤ 1000) (hl : L.length ≤ 1000) : RG (rLq S L f) := by
  intro k j
  unfold rLq
  split
  · exact hf j
  · split
    · rename_i g
      rw [List.getD_eq_getElem?_getD, List.getElem?_eq_getElem (by omega)]
      have := h _ (List.getElem_mem (by omega : j.toNat < L.length))
      simp only [Option.getD_some]
      omega
    · split
      · omega
      · exact hR k j
/-- by ascending distances, of like ones in ascending order -/
def lkN (h : Nat → Nat → Bool) (n : Nat) : Nat → List Nat
  | 0 => []
  | a + 1 => lkN h n a ++ (List.range n).filter (h a)
def lkT (h : Nat → Nat → Bool) (l : List Nat) : Nat → Nat
  | 0 => 0
  | a + 1 => lkT h l a + (l.filter (h a)).length
theorem lkN_len (h : Nat → Nat → Bool) (n : Nat) : ∀ a : Nat, (lkN h n a).length = lkT h (List.range n) a
  | 0 => rfl
  | a + 1 => by rw [lkN, lkT, List.length_append, lkN_len h n a]
def lkO (h : Nat → Nat → Bool) (p : Nat) : Nat → Nat
  | 0 => 0
  | a + 1 => lkO h p a + if h a p = true then 1 else 0
theorem lkO_le {h : Nat → Nat → Bool} {p : Nat} (hu : ∀ a b : Nat, h a p = true → h b p = true → a = b) : ∀ a : Nat, lkO h p a ≤ 1 ∧ (lkO h p a = 1 → ∃ b, b < a ∧ h b p = true) := by
  intro a
  induction a with
  | zero => simp [lkO]
  | succ a ih =>
    rw [lkO]
    by_cases g : h a p = true
    · rw [if_pos g]
      have : lkO h p a ≠ 1 := fun e => by
        obtain ⟨b, hb, hb2⟩ := ih.2 e
        have := hu a b g hb2
        omega
      exact ⟨by omega, fun _ => ⟨a, by omega, g⟩⟩
    · rw [if_neg g]
      refine ⟨by omega, fun e => ?_⟩
      obtain ⟨b, hb, hb2⟩ := ih.2 (by omega)
      exact ⟨b, by omega, hb2⟩
theorem lkT_cons {h : Nat → Nat → Bool} {p : Nat} {l : List Nat} : ∀ a : Nat, lkT h (p :: l) a = lkT h l a + lkO h p a
  | 0 => rfl
  | a + 1 => by
    rw [lkT, lkT, lkT_cons a, lkO, List.filter_cons]
    split <;> simp <;> omega
theorem lkT_le {h : Nat → Nat → Bool} (hu : ∀ p a b : Nat, h a p = true → h b p = true → a = b) (a : Nat) : ∀ l : List Nat, lkT h l a ≤ l.length
  | [] => by
    have : ∀ a, lkT h [] a = 0 := by
      intro a
      induction a with
      | zero => rfl
      | succ a ih => rw [lkT, ih]; rfl
    rw [this]; exact Nat.zero_le _
  | p :: l => by
    have h1 := lkT_le hu a l
    have h2 := (lkO_le (hu p) a).1
    rw [lkT_cons, List.length_cons]; omega
theorem lkN_mem {h : Nat → Nat → Bool} {n p : Nat} : ∀ a : Nat, p ∈ lkN h n a → p < n
  | 0, hp => by simp [lkN] at hp
  | a + 1, hp => by
    rw [lkN, List.mem_append] at hp
    rcases hp with hp | hp
    · exact lkN_mem a hp
    · exact List.mem_range.mp (List.mem_filter.mp hp).1
def lkI (l : List Nat) : List Int := l.map (fun p : Nat => (p : Int))
theorem lkI_len (l : List Nat) : (lkI l).length = l.length := List.length_map ..
theorem lkI_app (l r : List Nat) : lkI (l ++ r) = lkI l ++ lkI r := List.map_append ..
def lkh (S T : RS) (y : Int) (NN c : Nat) (a p : Nat) : Bool := decide (rEx S p y ∧ rDs T (rNm (S 1) p y NN) c = a)
theorem tX13_lookupB {d m : Nat} {S : RS} {M : QM} {x : QP} (hK : RK m M) (hR : RG S) {y w : Int} (v0 : 0 ≤ S 0 4) (v1 : S 0 4 ≤ 80) (h1 : -2147483648 ≤ y) (h2 : y < 2147483648) (h3 : -2147483648 ≤ w) (h4 : w < 2147483648) (g : ¬ (0 ≤ y ∧ y ≤ 9999) ∨ ¬ (0 ≤ w ∧ w ≤ 3)) : q_T (d + 5) iX13_lookup [qr m, qi y, qi w] (ov m S M) x = x (some (qi (-2))) (ov m (rOw S) M) := by
  rw [eX13_lookup]
  by_cases g1 : 0 ≤ y ∧ y ≤ 9999
  · have g2 : ¬ (0 ≤ w ∧ w ≤ 3) := by omega
    simp (disch := first | assumption | exact RK0 hK | exact RK1a hK | exact RK2a hK | exact RK3a hK | exact RK4a hK | exact RK5a hK | exact RK6a hK | exact RK7a hK | exact RGl hR | exact RGh hR | exact bI_lo | exact bI_hi | exact bI_01 | (show (List.map q_wd _).sum ≤ 8; with_unfolding_all exact Nat.le_of_ble_eq_true rfl) | (refine RK1c hK ?_; omega) | (refine RK2c hK ?_; omega) | (refine RK3c hK ?_; omega) | (refine RK4c hK ?_; omega) | (refine RK5c hK ?_; omega) | (refine RK6c hK ?_; omega) | (refine RK7c hK ?_; omega) | omega) only [kX13_lookup_0, kX13_lookup_1E, kX13_lookup_4, kX13_lookup_5, kX13_lookup_6E, kX13_lookup_9, kX13_lookup_12, kX13_lookup_13, kX13_lookup_14, kX13_lookup_15E, kX13_lookup_18, kX13_lookup_21, kX13_lookup_23, kX13_lookup_24, kX13_lookup_25, kX13_lookup_28, kX13_lookup_29, kX13_lookup_31E, kX13_lookup_34, q_cut_i, q_cut_r, q_cut_l, q_cut_n, q_kd_ov, ov_f0, ov_f1, ov_f2, ov_f3, ov_f4, ov_f5, ov_f6, ov_f7, ov_f8, ov_f9, ov_f10, ov_f11, ov_f12, ov_f13, ov_f14, ov_f15, ov_f16, ov_r, ov_w, ov_w1, ov_w2, ov_w4, ov_w5, ov_w6, ov_w7, ov_w9, ov_w11, ov_w13, ov_w16, up_s, up_k, up_j, up_up, q_psh_n, q_psh_s, bI_eq0, ite_not, ↓if_pos, ↓if_neg, ↓ite_bI_t, ↓ite_bI_f, tX13_isOneWord hK hR, tX13_isDay, tX13_in]
  · simp (disch := first | assumption | exact RK0 hK | exact RK1a hK | exact RK2a hK | exact RK3a hK | exact RK4a hK | exact RK5a hK | exact RK6a hK | exact RK7a hK | exact RGl hR | exact RGh hR | exact bI_lo | exact bI_hi | exact bI_01 | (show (List.map q_wd _).sum ≤ 8; with_unfolding_all exact Nat.le_of_ble_eq_true rfl) | (refine RK1c hK ?_; omega) | (refine RK2c hK ?_; omega) | (refine RK3c hK ?_; omega) | (refine RK4c hK ?_; omega) | (refine RK5c hK ?_; omega) | (refine RK6c hK ?_; omega) | (refine RK7c hK ?_; omega) | omega) only [kX13_lookup_0, kX13_lookup_1E, kX13_lookup_4, kX13_lookup_5, kX13_lookup_6E, kX13_lookup_9, kX13_lookup_12, kX13_lookup_13, kX13_lookup_14, kX13_lookup_15E, kX13_lookup_18, kX13_lookup_21, kX13_lookup_23, kX13_lookup_24, kX13_lookup_25, kX13_lookup_28, kX13_lookup_29, kX13_lookup_31E, kX13_lookup_34, q_cut_i, q_cut_r, q_cut_l, q_cut_n, q_kd_ov, ov_f0, ov_f1, ov_f2, ov_f3, ov_f4, ov_f5, ov_f6, ov_f7, ov_f8, ov_f9, ov_f10, ov_f11, ov_f12, ov_f13, ov_f14, ov_f15, ov_f16, ov_r, ov_w, ov_w1, ov_w2, ov_w4, ov_w5, ov_w6, ov_w7, ov_w9, ov_w11, ov_w13, ov_w16, up_s, up_k, up_j, up_up, q_psh_n, q_psh_s, bI_eq0, ite_not, ↓if_pos, ↓if_neg, ↓ite_bI_t, ↓ite_bI_f, tX13_isOneWord hK hR, tX13_isDay, tX13_in]
theorem tX13_lookupW {d m : Nat} {S : RS} {M : QM} {x : QP} (hK : RK m M) (hR : RG S) {y w : Int} (v0 : 0 ≤ S 0 4) (v1 : S 0 4 ≤ 80) (g1 : 0 ≤ y ∧ y ≤ 9999) (g2 : 0 ≤ w ∧ w ≤ 3) (g : ¬ oneW S = true) : q_T (d + 5) iX13_lookup [qr m, qi y, qi w] (ov m S M) x = x (some (qi (-3))) (ov m (up (rOw S) 0 7 9) M) := by
  have R1 := RG_rOw hR
  have hf := fun (z : QP) (v : Int) => tX13_refuse (d := d + 3) (x := z) (v := v) hK R1
  rw [eX13_lookup]
  simp (disch := first | assumption | exact RK0 hK | exact RK1a hK | exact RK2a hK | exact RK3a hK | exact RK4a hK | exact RK5a hK | exact RK6a hK | exact RK7a hK | exact RGl hR | exact RGh hR | exact bI_lo | exact bI_hi | exact bI_01 | (show (List.map q_wd _).sum ≤ 8; with_unfolding_all exact Nat.le_of_ble_eq_true rfl) | (refine RK1c hK ?_; omega) | (refine RK2c hK ?_; omega) | (refine RK3c hK ?_; omega) | (refine RK4c hK ?_; omega) | (refine RK5c hK ?_; omega) | (refine RK6c hK ?_; omega) | (refine RK7c hK ?_; omega) | omega) only [kX13_lookup_0, kX13_lookup_1E, kX13_lookup_4, kX13_lookup_5, kX13_lookup_6E, kX13_lookup_9, kX13_lookup_12, kX13_lookup_13, kX13_lookup_14, kX13_lookup_15E, kX13_lookup_18, kX13_lookup_21, kX13_lookup_23, kX13_lookup_24, kX13_lookup_25, kX13_lookup_28, kX13_lookup_29, kX13_lookup_31E, kX13_lookup_34, q_cut_i, q_cut_r, q_cut_l, q_cut_n, q_kd_ov, ov_f0, ov_f1, ov_f2, ov_f3, ov_f4, ov_f5, ov_f6, ov_f7, ov_f8, ov_f9, ov_f10, ov_f11, ov_f12, ov_f13, ov_f14, ov_f15, ov_f16, ov_r, ov_w, ov_w1, ov_w2, ov_w4, ov_w5, ov_w6, ov_w7, ov_w9, ov_w11, ov_w13, ov_w16, up_s, up_k, up_j, up_up, q_psh_n, q_psh_s, bI_eq0, ite_not, ↓if_pos, ↓if_neg, ↓ite_bI_t, ↓ite_bI_f, tX13_isOneWord hK hR, tX13_isDay, tX13_in, hf]
set_option maxHeartbeats 8000000 in
theorem tX13_lookupY {d m : Nat} {S : RS} {M : QM} (hK : RK m M) (hR : RG S) {y w : Int} {n NN c : Nat} (v0 : 0 ≤ S 0 4) (v1 : S 0 4 ≤ 80) (g1 : 0 ≤ y ∧ y ≤ 9999) (g2 : 0 ≤ w ∧ w ≤ 3) (g : oneW S = true) (hn : S 1 0 = n) (hn2 : n ≤ 20) (hNN : S 1 1 = NN) (hNN2 : NN ≤ 700) (hc : S 0 4 = c) (hg : rNg S n NN) :
    ∃ f, q_FR f ∧ q_C (d + 5) iX13_lookup [qr m, qi y, qi w] (ov m S M) (some (qi (lkN (lkh S (rOw S) y NN c) n (w + 1).toNat).length)) (ov m (rLq (rOw S) (lkI (lkN (lkh S (rOw S) y NN c) n (w + 1).toNat)) f) M) := by
  obtain ⟨T, hT⟩ : ∃ T, T = rOw S := ⟨_, rfl⟩
  have RT : RG T := by rw [hT]; exact RG_rOw hR
  have T1 : T 1 = S 1 := by rw [hT]; exact rOw_k (by omega) (by omega)
  have T9 : T 0 9 = c := by rw [hT, rOw_9 g, hc]
  have hcc := oneW_c g
  rw [← hT]
  obtain ⟨h, hh⟩ : ∃ h, h = lkh S T y NN c := ⟨_, rfl⟩
  rw [← hh]
  have hu : ∀ p a b : Nat, h a p = true → h b p = true → a = b := by
    intro p a b h1 h2
    rw [hh] at h1 h2
    have e1 := (of_decide_eq_true h1).2
    have e2 := (of_decide_eq_true h2).2
    omega
  have hR20 : ∀ l : List Nat, (∀ p ∈ l, p < n) → ∀ c ∈ lkI l, 0 ≤ c ∧ c ≤ 1000 := by
    intro l hl c hc
    obtain ⟨p, hp, rfl⟩ := List.mem_map.mp hc
    have := hl p hp
    omega
  have hlen : ∀ a k : Nat, k ≤ n → (lkN h n a ++ (List.range k).filter (h a)).length ≤ n := by
    intro a k hk
    have h1 := lkT_le hu (a + 1) (List.range n)
    rw [lkT, ← lkN_len, List.length_range] at h1
    have h2 : ((List.range k).filter (h a)).length ≤ ((List.range n).filter (h a)).length := by
      obtain ⟨e, rfl⟩ : ∃ e, n = k + e := ⟨n - k, by omega⟩
      rw [List.range_add, List.filter_append, List.length_append]
      omega
    rw [List.length_append]
    omega
  have hmem : ∀ a k : Nat, k ≤ n → ∀ p ∈ lkN h n a ++ (List.range k).filter (h a), p < n := by
    intro a k hk p hp
    rcases List.mem_append.mp hp with hp | hp
    · exact lkN_mem a hp
    · have := List.mem_range.mp (List.mem_filter.mp hp).1
      omega
  have inner : ∀ (a : Nat), a < 4 → ∀ (n1 k : Nat), k + n1 = n → ∀ (f : Int → Int), q_FR f → ∀ (P : QP), (∀ f', q_FR f' → ∀ l5, Rr (q_C (d + 4)) mX13_lookup (119, [some (qr m), some (qi y), some (qi w), some (qi 1), some (qi a), l5], [], ov m (rLq T (lkI (lkN h n (a + 1))) f') M) P) →
      Rr (q_C (d + 4)) mX13_lookup (52, [some (qr m), some (qi y), some (qi w), some (qi 1), some (qi a), some (qi k)], [], ov m (rLq T (lkI (lkN h n a ++ (List.range k).filter (h a))) f) M) P := by
    intro a ha n1
    induction n1 with
    | zero =>
      intro k hk f hf P hP
      have e : k = n := by omega
      subst e
      have k1 : rLq T (lkI (lkN h k a ++ (List.range k).filter (h a))) f 1 = T 1 := rLq_k (by omega) (by omega) (by omega)
      rw [kX13_lookup_52]
      simp (disch := first | assumption | exact RK0 hK | exact RK1a hK | exact RK2a hK | exact RK3a hK | exact RK4a hK | exact RK5a hK | exact RK6a hK | exact RK7a hK | exact RGl hR | exact RGh hR | exact bI_lo | exact bI_hi | exact bI_01 | (show (List.map q_wd _).sum ≤ 8; with_unfolding_all exact Nat.le_of_ble_eq_true rfl) | (refine RK1c hK ?_; omega) | (refine RK2c hK ?_; omega) | (refine RK3c hK ?_; omega) | (refine RK4c hK ?_; omega) | (refine RK5c hK ?_; omega) | (refine RK6c hK ?_; omega) | (refine RK7c hK ?_; omega) | omega) only [kX13_lookup_54, kX13_lookup_55, kX13_lookup_58, kX13_lookup_59, kX13_lookup_60, q_cut_i, q_cut_r, q_cut_l, q_cut_n, q_kd_ov, ov_f0, ov_f1, ov_f2, ov_f3, ov_f4, ov_f5, ov_f6, ov_f7, ov_f8, ov_f9, ov_f10, ov_f11, ov_f12, ov_f13, ov_f14, ov_f15, ov_f16, ov_r, ov_w, ov_w1, ov_w2, ov_w4, ov_w5, ov_w6, ov_w7, ov_w9, ov_w11, ov_w13, ov_w16, up_s, up_k, up_j, up_up, q_psh_n, q_psh_s, bI_eq0, ite_not, ↓if_pos, ↓if_neg, ↓ite_bI_t, ↓ite_bI_f, k1, T1]
      exact hP f hf _
    | succ n1 ih =>
      intro k hk f hf P hP
      obtain ⟨L, hL⟩ : ∃ L, L = lkI (lkN h n a ++ (List.range k).filter (h a)) := ⟨_, rfl⟩
      have hLl : L.length ≤ n := by rw [hL, lkI_len]; exact hlen a k (by omega)
      have RL : RG (rLq T L f) := RG_rLq RT hf (by rw [hL]; exact hR20 _ (hmem a k (by omega))) (by omega)
      have k1 : rLq T L f 1 = S 1 := by rw [rLq_k (by omega) (by omega) (by omega), T1]
      have k3 : rLq T L f 3 = T 3 := rLq_k (by omega) (by omega) (by omega)
      have k9 : rLq T L f 0 9 = c := by rw [rLq_0 (by omega), T9]
      have e1 : (rLq T L f) 1 1 = NN := by rw [k1, hNN]
      have hm := rNm_b (S 1) k y NN
      have hx : ∀ q : Int, rEx (rLq T L f) q y = rEx S q y := fun q => by unfold rEx; rw [k1]
      have rs : List.range (k + 1) = List.range k ++ [k] := List.range_succ
      rw [← hL, kX13_lookup_52]
      by_cases c1 : rEx S k y
      · obtain ⟨w1, w2, w3⟩ := hg k y (by omega) c1 g1.1 g1.2
        obtain ⟨nl, hnl⟩ : ∃ nl : Nat, S 1 (rNm (S 1) k y NN + 2) = nl := ⟨(S 1 (rNm (S 1) k y NN + 2)).toNat, by omega⟩
        obtain ⟨f2, hf2, hd⟩ := tX13_distance (d := d + 3) (M := M) hK RL (nm := rNm (S 1) k y NN) (n := nl) (c := c) (by omega) (by rw [k1]; exact hnl) (by omega) k9 (by omega)
        have eds : rDs (rLq T L f) (rNm (S 1) k y NN) c = rDs T (rNm (S 1) k y NN) c := by unfold rDs; rw [k1, k3, T1]
        rw [eds, rLq_6] at hd
        have hdr : -2147483648 ≤ rDs T (rNm (S 1) k y NN) c ∧ rDs T (rNm (S 1) k y NN) c < 2147483648 := by
          have := dRow_b (fun i : Nat => T 3 (i : Int)) (fun j : Nat => T 1 (rNm (S 1) k y NN + 3 + (j : Int))) c (T 1 (rNm (S 1) k y NN + 2)).toNat
          unfold rDs
          rw [T1] at this ⊢
          omega
        by_cases c2 : rDs T (rNm (S 1) k y NN) c = a
        · have eh : h a k = true := by rw [hh]; exact decide_eq_true ⟨c1, c2⟩
          have ih' := ih (k + 1) (by omega) f2 hf2 P hP
          have e13 := rLq_13 (S := T) (L := L) (f := f2)
          have hl2 := hlen a (k + 1) (by omega)
          rw [rs, List.filter_append, ← List.append_assoc, List.filter_cons_of_pos eh, List.length_append] at hl2
          have hl3 : L.length = (lkN h n a ++ (List.range k).filter (h a)).length := by rw [hL, lkI_len]
          simp only [List.filter_nil, List.length_singleton] at hl2
          rw [rs, List.filter_append, ← List.append_assoc, lkI_app, ← hL, List.filter_cons_of_pos eh] at ih'
          have ih2 : Rr (q_C (d + 4)) mX13_lookup (52, [some (qr m), some (qi y), some (qi w), some (qi 1), some (qi a), some (qi (k + 1 : Nat))], [], ov m (rLq T (L ++ [(k : Int)]) f2) M) P := ih'
          rw [← rLq_s] at ih2
          simp (disch := first | assumption | exact RK0 hK | exact RK1a hK | exact RK2a hK | exact RK3a hK | exact RK4a hK | exact RK5a hK | exact RK6a hK | exact RK7a hK | exact RGl hR | exact RGh hR | exact bI_lo | exact bI_hi | exact bI_01 | (show (List.map q_wd _).sum ≤ 8; with_unfolding_all exact Nat.le_of_ble_eq_true rfl) | (refine RK1c hK ?_; omega) | (refine RK2c hK ?_; omega) | (refine RK3c hK ?_; omega) | (refine RK4c hK ?_; omega) | (refine RK5c hK ?_; omega) | (refine RK6c hK ?_; omega) | (refine RK7c hK ?_; omega) | omega) only [kX13_lookup_54, kX13_lookup_55, kX13_lookup_58, kX13_lookup_59, kX13_lookup_60, kX13_lookup_63, kX13_lookup_64, kX13_lookup_66, kX13_lookup_67E, kX13_lookup_70, kX13_lookup_73, kX13_lookup_74, kX13_lookup_75, kX13_lookup_77, kX13_lookup_78E, kX13_lookup_81E, kX13_lookup_84, kX13_lookup_86, kX13_lookup_89, kX13_lookup_92, kX13_lookup_93, kX13_lookup_96, kX13_lookup_97, kX13_lookup_100, kX13_lookup_102, kX13_lookup_103, kX13_lookup_104i, kX13_lookup_104r, kX13_lookup_105, kX13_lookup_108, kX13_lookup_109, kX13_lookup_110, kX13_lookup_113, kX13_lookup_116, q_cut_i, q_cut_r, q_cut_l, q_cut_n, q_kd_ov, ov_f0, ov_f1, ov_f2, ov_f3, ov_f4, ov_f5, ov_f6, ov_f7, ov_f8, ov_f9, ov_f10, ov_f11, ov_f12, ov_f13, ov_f14, ov_f15, ov_f16, ov_r, ov_w, ov_w1, ov_w2, ov_w4, ov_w5, ov_w6, ov_w7, ov_w9, ov_w11, ov_w13, ov_w16, up_s, up_k, up_j, up_up, q_psh_n, q_psh_s, bI_eq0, ite_not, ↓if_pos, ↓if_neg, ↓ite_bI_t, ↓ite_bI_f, k1, tX13_exists hK RL, hx, tX13_nameOn hK RL e1 hNN2, T_of hd, e13]
          exact ih2
        · have eh : ¬ h a k = true := by rw [hh]; exact fun q => c2 (of_decide_eq_true q).2
          have ih' := ih (k + 1) (by omega) f2 hf2 P hP
          rw [rs, List.filter_append, ← List.append_assoc, lkI_app, ← hL, List.filter_cons_of_neg eh] at ih'
          have ih2 : Rr (q_C (d + 4)) mX13_lookup (52, [some (qr m), some (qi y), some (qi w), some (qi 1), some (qi a), some (qi (k + 1 : Nat))], [], ov m (rLq T (L ++ []) f2) M) P := ih'
          rw [List.append_nil] at ih2
          simp (disch := first | assumption | exact RK0 hK | exact RK1a hK | exact RK2a hK | exact RK3a hK | exact RK4a hK | exact RK5a hK | exact RK6a hK | exact RK7a hK | exact RGl hR | exact RGh hR | exact bI_lo | exact bI_hi | exact bI_01 | (show (List.map q_wd _).sum ≤ 8; with_unfolding_all exact Nat.le_of_ble_eq_true rfl) | (refine RK1c hK ?_; omega) | (refine RK2c hK ?_; omega) | (refine RK3c hK ?_; omega) | (refine RK4c hK ?_; omega) | (refine RK5c hK ?_; omega) | (refine RK6c hK ?_; omega) | (refine RK7c hK ?_; omega) | omega) only [kX13_lookup_54, kX13_lookup_55, kX13_lookup_58, kX13_lookup_59, kX13_lookup_60, kX13_lookup_63, kX13_lookup_64, kX13_lookup_66, kX13_lookup_67E, kX13_lookup_70, kX13_lookup_73, kX13_lookup_74, kX13_lookup_75, kX13_lookup_77, kX13_lookup_78E, kX13_lookup_81E, kX13_lookup_84, kX13_lookup_86, kX13_lookup_89, kX13_lookup_92, kX13_lookup_93, kX13_lookup_96, kX13_lookup_97, kX13_lookup_100, kX13_lookup_102, kX13_lookup_103, kX13_lookup_104i, kX13_lookup_104r, kX13_lookup_105, kX13_lookup_108, kX13_lookup_109, kX13_lookup_110, kX13_lookup_113, kX13_lookup_116, q_cut_i, q_cut_r, q_cut_l, q_cut_n, q_kd_ov, ov_f0, ov_f1, ov_f2, ov_f3, ov_f4, ov_f5, ov_f6, ov_f7, ov_f8, ov_f9, ov_f10, ov_f11, ov_f12, ov_f13, ov_f14, ov_f15, ov_f16, ov_r, ov_w, ov_w1, ov_w2, ov_w4, ov_w5, ov_w6, ov_w7, ov_w9, ov_w11, ov_w13, ov_w16, up_s, up_k, up_j, up_up, q_psh_n, q_psh_s, bI_eq0, ite_not, ↓if_pos, ↓if_neg, ↓ite_bI_t, ↓ite_bI_f, k1, tX13_exists hK RL, hx, tX13_nameOn hK RL e1 hNN2, T_of hd]
          exact ih2
      · have eh : ¬ h a k = true := by rw [hh]; exact fun q => c1 (of_decide_eq_true q).1
        have ih' := ih (k + 1) (by omega) f hf P hP
        rw [rs, List.filter_append, ← List.append_assoc, lkI_app, ← hL, List.filter_cons_of_neg eh] at ih'
        have ih2 : Rr (q_C (d + 4)) mX13_lookup (52, [some (qr m), some (qi y), some (qi w), some (qi 1), some (qi a), some (qi (k + 1 : Nat))], [], ov m (rLq T (L ++ []) f) M) P := ih'
        rw [List.append_nil] at ih2
        simp (disch := first | assumption | exact RK0 hK | exact RK1a hK | exact RK2a hK | exact RK3a hK | exact RK4a hK | exact RK5a hK | exact RK6a hK | exact RK7a hK | exact RGl hR | exact RGh hR | exact bI_lo | exact bI_hi | exact bI_01 | (show (List.map q_wd _).sum ≤ 8; with_unfolding_all exact Nat.le_of_ble_eq_true rfl) | (refine RK1c hK ?_; omega) | (refine RK2c hK ?_; omega) | (refine RK3c hK ?_; omega) | (refine RK4c hK ?_; omega) | (refine RK5c hK ?_; omega) | (refine RK6c hK ?_; omega) | (refine RK7c hK ?_; omega) | omega) only [kX13_lookup_54, kX13_lookup_55, kX13_lookup_58, kX13_lookup_59, kX13_lookup_60, kX13_lookup_63, kX13_lookup_64, kX13_lookup_66, kX13_lookup_67E, kX13_lookup_70, kX13_lookup_73, kX13_lookup_74, kX13_lookup_75, kX13_lookup_77, kX13_lookup_78E, kX13_lookup_81E, kX13_lookup_84, kX13_lookup_86, kX13_lookup_89, kX13_lookup_92, kX13_lookup_93, kX13_lookup_96, kX13_lookup_97, kX13_lookup_100, kX13_lookup_102, kX13_lookup_103, kX13_lookup_104i, kX13_lookup_104r, kX13_lookup_105, kX13_lookup_108, kX13_lookup_109, kX13_lookup_110, kX13_lookup_113, kX13_lookup_116, q_cut_i, q_cut_r, q_cut_l, q_cut_n, q_kd_ov, ov_f0, ov_f1, ov_f2, ov_f3, ov_f4, ov_f5, ov_f6, ov_f7, ov_f8, ov_f9, ov_f10, ov_f11, ov_f12, ov_f13, ov_f14, ov_f15, ov_f16, ov_r, ov_w, ov_w1, ov_w2, ov_w4, ov_w5, ov_w6, ov_w7, ov_w9, ov_w11, ov_w13, ov_w16, up_s, up_k, up_j, up_up, q_psh_n, q_psh_s, bI_eq0, ite_not, ↓if_pos, ↓if_neg, ↓ite_bI_t, ↓ite_bI_f, k1, tX13_exists hK RL, hx]
        exact ih2
  have outer : ∀ (n1 a : Nat), a + n1 = (w + 1).toNat → ∀ (f : Int → Int), q_FR f → ∀ (l5 : Option CV) (P : QP), (∀ f', q_FR f' → P (some (qi (lkN h n (w + 1).toNat).length)) (ov m (rLq T (lkI (lkN h n (w + 1).toNat)) f') M)) →
      Rr (q_C (d + 4)) mX13_lookup (43, [some (qr m), some (qi y), some (qi w), some (qi 1), some (qi a), l5], [], ov m (rLq T (lkI (lkN h n a)) f) M) P := by
    intro n1
    induction n1 with
    | zero =>
      intro a ha f hf l5 P hP
      have e : a = (w + 1).toNat := by omega
      subst e
      have e13 := rLq_13 (S := T) (L := lkI (lkN h n (w + 1).toNat)) (f := f)
      rw [lkI_len] at e13
      rw [kX13_lookup_43]
      simp (disch := first | assumption | exact RK0 hK | exact RK1a hK | exact RK2a hK | exact RK3a hK | exact RK4a hK | exact RK5a hK | exact RK6a hK | exact RK7a hK | exact RGl hR | exact RGh hR | exact bI_lo | exact bI_hi | exact bI_01 | (show (List.map q_wd _).sum ≤ 8; with_unfolding_all exact Nat.le_of_ble_eq_true rfl) | (refine RK1c hK ?_; omega) | (refine RK2c hK ?_; omega) | (refine RK3c hK ?_; omega) | (refine RK4c hK ?_; omega) | (refine RK5c hK ?_; omega) | (refine RK6c hK ?_; omega) | (refine RK7c hK ?_; omega) | omega) only [kX13_lookup_45, kX13_lookup_46, kX13_lookup_125, kX13_lookup_126, kX13_lookup_129, q_cut_i, q_cut_r, q_cut_l, q_cut_n, q_kd_ov, ov_f0, ov_f1, ov_f2, ov_f3, ov_f4, ov_f5, ov_f6, ov_f7, ov_f8, ov_f9, ov_f10, ov_f11, ov_f12, ov_f13, ov_f14, ov_f15, ov_f16, ov_r, ov_w, ov_w1, ov_w2, ov_w4, ov_w5, ov_w6, ov_w7, ov_w9, ov_w11, ov_w13, ov_w16, up_s, up_k, up_j, up_up, q_psh_n, q_psh_s, bI_eq0, ite_not, ↓if_pos, ↓if_neg, ↓ite_bI_t, ↓ite_bI_f, e13]
      exact hP f hf
    | succ n1 ih =>
      intro a ha f hf l5 P hP
      rw [kX13_lookup_43]
      simp (disch := first | assumption | exact RK0 hK | exact RK1a hK | exact RK2a hK | exact RK3a hK | exact RK4a hK | exact RK5a hK | exact RK6a hK | exact RK7a hK | exact RGl hR | exact RGh hR | exact bI_lo | exact bI_hi | exact bI_01 | (show (List.map q_wd _).sum ≤ 8; with_unfolding_all exact Nat.le_of_ble_eq_true rfl) | (refine RK1c hK ?_; omega) | (refine RK2c hK ?_; omega) | (refine RK3c hK ?_; omega) | (refine RK4c hK ?_; omega) | (refine RK5c hK ?_; omega) | (refine RK6c hK ?_; omega) | (refine RK7c hK ?_; omega) | omega) only [kX13_lookup_45, kX13_lookup_46, kX13_lookup_49, kX13_lookup_50, q_cut_i, q_cut_r, q_cut_l, q_cut_n, q_kd_ov, ov_f0, ov_f1, ov_f2, ov_f3, ov_f4, ov_f5, ov_f6, ov_f7, ov_f8, ov_f9, ov_f10, ov_f11, ov_f12, ov_f13, ov_f14, ov_f15, ov_f16, ov_r, ov_w, ov_w1, ov_w2, ov_w4, ov_w5, ov_w6, ov_w7, ov_w9, ov_w11, ov_w13, ov_w16, up_s, up_k, up_j, up_up, q_psh_n, q_psh_s, bI_eq0, ite_not, ↓if_pos, ↓if_neg, ↓ite_bI_t, ↓ite_bI_f]
      have l0 := inner a (by omega) n 0 (by omega) f hf P (fun f' hf' l5 => by
        have ih' := ih (a + 1) (by omega) f' hf' l5 P hP
        simp (disch := first | assumption | exact RK0 hK | exact RK1a hK | exact RK2a hK | exact RK3a hK | exact RK4a hK | exact RK5a hK | exact RK6a hK | exact RK7a hK | exact RGl hR | exact RGh hR | exact bI_lo | exact bI_hi | exact bI_01 | (show (List.map q_wd _).sum ≤ 8; with_unfolding_all exact Nat.le_of_ble_eq_true rfl) | (refine RK1c hK ?_; omega) | (refine RK2c hK ?_; omega) | (refine RK3c hK ?_; omega) | (refine RK4c hK ?_; omega) | (refine RK5c hK ?_; omega) | (refine RK6c hK ?_; omega) | (refine RK7c hK ?_; omega) | omega) only [kX13_lookup_119, kX13_lookup_122, q_cut_i, q_cut_r, q_cut_l, q_cut_n, q_kd_ov, ov_f0, ov_f1, ov_f2, ov_f3, ov_f4, ov_f5, ov_f6, ov_f7, ov_f8, ov_f9, ov_f10, ov_f11, ov_f12, ov_f13, ov_f14, ov_f15, ov_f16, ov_r, ov_w, ov_w1, ov_w2, ov_w4, ov_w5, ov_w6, ov_w7, ov_w9, ov_w11, ov_w13, ov_w16, up_s, up_k, up_j, up_up, q_psh_n, q_psh_s, bI_eq0, ite_not, ↓if_pos, ↓if_neg, ↓ite_bI_t, ↓ite_bI_f]
        exact ih')
      rw [List.range_zero, List.filter_nil, List.append_nil] at l0
      exact l0
  have hTT : ∀ P : QP, (∀ f', q_FR f' → P (some (qi (lkN h n (w + 1).toNat).length)) (ov m (rLq T (lkI (lkN h n (w + 1).toNat)) f') M)) → q_T (d + 5) iX13_lookup [qr m, qi y, qi w] (ov m S M) P := by
    intro P hP
    have l0 := outer (w + 1).toNat 0 (by omega) (T 6) (fun j => RT 6 j) none P hP
    have ez : lkI (lkN h n 0) = [] := rfl
    rw [ez, rLq_z] at l0
    have ho := fun z : QP => tX13_isOneWord (d := d) (x := z) hK hR v1 v0
    rw [bI_pos g, ← hT] at ho
    rw [eX13_lookup]
    simp (disch := first | assumption | exact RK0 hK | exact RK1a hK | exact RK2a hK | exact RK3a hK | exact RK4a hK | exact RK5a hK | exact RK6a hK | exact RK7a hK | exact RGl hR | exact RGh hR | exact bI_lo | exact bI_hi | exact bI_01 | (show (List.map q_wd _).sum ≤ 8; with_unfolding_all exact Nat.le_of_ble_eq_true rfl) | (refine RK1c hK ?_; omega) | (refine RK2c hK ?_; omega) | (refine RK3c hK ?_; omega) | (refine RK4c hK ?_; omega) | (refine RK5c hK ?_; omega) | (refine RK6c hK ?_; omega) | (refine RK7c hK ?_; omega) | omega) only [kX13_lookup_0, kX13_lookup_1E, kX13_lookup_4, kX13_lookup_5, kX13_lookup_6E, kX13_lookup_9, kX13_lookup_12, kX13_lookup_13, kX13_lookup_14, kX13_lookup_15E, kX13_lookup_18, kX13_lookup_21, kX13_lookup_23, kX13_lookup_24, kX13_lookup_25, kX13_lookup_28, kX13_lookup_29, kX13_lookup_31E, kX13_lookup_34, kX13_lookup_35, kX13_lookup_36, kX13_lookup_37, kX13_lookup_40, kX13_lookup_41, q_cut_i, q_cut_r, q_cut_l, q_cut_n, q_kd_ov, ov_f0, ov_f1, ov_f2, ov_f3, ov_f4, ov_f5, ov_f6, ov_f7, ov_f8, ov_f9, ov_f10, ov_f11, ov_f12, ov_f13, ov_f14, ov_f15, ov_f16, ov_r, ov_w, ov_w1, ov_w2, ov_w4, ov_w5, ov_w6, ov_w7, ov_w9, ov_w11, ov_w13, ov_w16, up_s, up_k, up_j, up_up, q_psh_n, q_psh_s, bI_eq0, ite_not, ↓if_pos, ↓if_neg, ↓ite_bI_t, ↓ite_bI_f, ho, tX13_isDay, tX13_in]
    exact l0
  obtain ⟨r, M1, e1, f, hf, rfl, rfl⟩ := hTT (fun r M1 => ∃ f, q_FR f ∧ r = some (qi (lkN h n (w + 1).toNat).length) ∧ M1 = ov m (rLq T (lkI (lkN h n (w + 1).toNat)) f) M) (fun f' hf' => ⟨f', hf', rfl, rfl⟩)
  exact ⟨f, hf, e1⟩
