/-! the reference's memory as an overlay: its object at m, its seven arrays behind it -/
abbrev RS : Type := Nat → Int → Int
def rfi (m j : Nat) (S : RS) : CV := match j with
  | 0 => qr (m + 1)
  | 3 => qr (m + 2)
  | 8 => qr (m + 3)
  | 10 => qr (m + 4)
  | 12 => qr (m + 5)
  | 14 => qr (m + 6)
  | 15 => qr (m + 7)
  | j => qi (S 0 j)
def ov (m : Nat) (S : RS) (M : QM) : QM := (M.1, (fun b j => if m ≤ b ∧ b < m + 8 then (if b = m then rfi m j S else qi (S (b - m) j)) else M.2.1 b j), M.2.2)
def up (S : RS) (k : Nat) (j v : Int) : RS := fun k' j' => if k' = k ∧ j' = j then v else S k' j'
theorem up_s {S : RS} {k : Nat} {j v : Int} : up S k j v k j = v := if_pos ⟨rfl, rfl⟩
theorem up_k {S : RS} {k k' : Nat} {j v : Int} (h : k' ≠ k) : up S k j v k' = S k' := by
  funext j'
  exact if_neg (fun g => h g.1)
theorem up_up {S : RS} {k : Nat} {j v w : Int} : up (up S k j v) k j w = up S k j w := by
  funext k' j'
  unfold up
  split <;> rfl
theorem up_j {S : RS} {k : Nat} {j j' v : Int} (h : j' ≠ j) : up S k j v k j' = S k j' := if_neg (fun g => h g.2)
theorem up_e {S : RS} {k : Nat} {j j' v : Int} : up S k j v k j' = if j' = j then v else S k j' := by
  unfold up; simp
theorem up_same {S : RS} {k : Nat} {j : Int} : up S k j (S k j) = S := by
  funext k' j'
  unfold up
  split
  · rename_i h; rw [h.1, h.2]
  · rfl
theorem q_kd_ov {m b : Nat} {S : RS} {M : QM} : q_kd (ov m S M) b = q_kd M b := rfl
theorem q_gs_ov {m : Nat} {S : RS} {M : QM} : q_gs (ov m S M) = q_gs M := rfl
theorem q_top_ov {m : Nat} {S : RS} {M : QM} : q_top (ov m S M) = q_top M := rfl
theorem q_nc_ov {m : Nat} {S : RS} {M : QM} : q_nc (ov m S M) = q_nc M := rfl
theorem q_ns_ov {m : Nat} {S : RS} {M : QM} : q_ns (ov m S M) = q_ns M := rfl
theorem ov_ff {m j : Nat} {S : RS} {M : QM} : q_fv (ov m S M) m j = rfi m j S := by
  show (if m ≤ m ∧ m < m + 8 then _ else _) = _
  rw [if_pos (by omega), if_pos rfl]
theorem ov_fo {m b j : Nat} {S : RS} {M : QM} (h : b < m ∨ m + 8 ≤ b) : q_fv (ov m S M) b j = q_fv M b j := by
  show (if m ≤ b ∧ b < m + 8 then _ else _) = _
  rw [if_neg (by omega)]; rfl
theorem ov_f0 {m : Nat} {S : RS} {M : QM} : q_fv (ov m S M) m 0 = qr (m + 1) := ov_ff
theorem ov_f3 {m : Nat} {S : RS} {M : QM} : q_fv (ov m S M) m 3 = qr (m + 2) := ov_ff
theorem ov_f8 {m : Nat} {S : RS} {M : QM} : q_fv (ov m S M) m 8 = qr (m + 3) := ov_ff
theorem ov_f10 {m : Nat} {S : RS} {M : QM} : q_fv (ov m S M) m 10 = qr (m + 4) := ov_ff
theorem ov_f12 {m : Nat} {S : RS} {M : QM} : q_fv (ov m S M) m 12 = qr (m + 5) := ov_ff
theorem ov_f14 {m : Nat} {S : RS} {M : QM} : q_fv (ov m S M) m 14 = qr (m + 6) := ov_ff
theorem ov_f15 {m : Nat} {S : RS} {M : QM} : q_fv (ov m S M) m 15 = qr (m + 7) := ov_ff
theorem ov_f1 {m : Nat} {S : RS} {M : QM} : q_fv (ov m S M) m 1 = qi (S 0 1) := ov_ff
theorem ov_f2 {m : Nat} {S : RS} {M : QM} : q_fv (ov m S M) m 2 = qi (S 0 2) := ov_ff
theorem ov_f4 {m : Nat} {S : RS} {M : QM} : q_fv (ov m S M) m 4 = qi (S 0 4) := ov_ff
theorem ov_f5 {m : Nat} {S : RS} {M : QM} : q_fv (ov m S M) m 5 = qi (S 0 5) := ov_ff
theorem ov_f6 {m : Nat} {S : RS} {M : QM} : q_fv (ov m S M) m 6 = qi (S 0 6) := ov_ff
theorem ov_f7 {m : Nat} {S : RS} {M : QM} : q_fv (ov m S M) m 7 = qi (S 0 7) := ov_ff
theorem ov_f9 {m : Nat} {S : RS} {M : QM} : q_fv (ov m S M) m 9 = qi (S 0 9) := ov_ff
theorem ov_f11 {m : Nat} {S : RS} {M : QM} : q_fv (ov m S M) m 11 = qi (S 0 11) := ov_ff
theorem ov_f13 {m : Nat} {S : RS} {M : QM} : q_fv (ov m S M) m 13 = qi (S 0 13) := ov_ff
theorem ov_f16 {m : Nat} {S : RS} {M : QM} : q_fv (ov m S M) m 16 = qi (S 0 16) := ov_ff
theorem ov_r {m k : Nat} {j : Int} {S : RS} {M : QM} (hk : 1 ≤ k ∧ k ≤ 7) (hj : 0 ≤ j) : q_fv (ov m S M) (m + k) j.toNat = qi (S k j) := by
  show (if m ≤ m + k ∧ m + k < m + 8 then (if m + k = m then _ else _) else _) = _
  rw [if_pos (by omega), if_neg (by omega), Nat.add_sub_cancel_left, Int.toNat_of_nonneg hj]
theorem ov_w {m k : Nat} {j v : Int} {S : RS} {M : QM} (hk : 1 ≤ k ∧ k ≤ 7) (hj : 0 ≤ j) : q_wr (ov m S M) (m + k) j.toNat (qi v) = ov m (up S k j v) M := by
  unfold q_wr ov
  refine congrArg (Prod.mk _) (congrArg (fun f => Prod.mk f _) ?_)
  funext b i
  dsimp only
  by_cases hb : m ≤ b ∧ b < m + 8
  · rw [if_pos hb, if_pos hb]
    by_cases hm : b = m
    · rw [if_pos hm, if_pos hm, if_neg (by omega)]
      unfold rfi
      split <;> first | rfl | (rw [up_k (by omega)])
    · rw [if_neg hm, if_neg hm]
      by_cases h : b = m + k ∧ i = j.toNat
      · rw [if_pos h, h.1, Nat.add_sub_cancel_left, h.2, Int.toNat_of_nonneg hj, up_s]
      · rw [if_neg h]
        unfold up
        rw [if_neg (by omega)]
  · rw [if_neg hb, if_neg hb, if_neg (by omega)]
theorem ov_wff {m j : Nat} {v : Int} {S : RS} {M : QM} (hj : rfi 0 j (fun _ _ => 0) = qi 0) (hj2 : ∀ S', rfi m j S' = qi (S' 0 j)) : q_wr (ov m S M) m j (qi v) = ov m (up S 0 j v) M := by
  unfold q_wr ov
  refine congrArg (Prod.mk _) (congrArg (fun f => Prod.mk f _) ?_)
  funext b i
  dsimp only
  by_cases hb : m ≤ b ∧ b < m + 8
  · rw [if_pos hb, if_pos hb]
    by_cases hm : b = m
    · rw [if_pos hm, if_pos hm]
      by_cases h : b = m ∧ i = j
      · rw [if_pos h, h.2, hj2, up_s]
      · rw [if_neg h]
        have hij : i ≠ j := fun g => h ⟨hm, g⟩
        unfold rfi
        split <;> first | rfl | (rw [up_j (by omega)])
    · rw [if_neg hm, if_neg hm, if_neg (fun g => hm g.1), up_k (by omega)]
  · rw [if_neg hb, if_neg hb, if_neg (by omega)]
theorem ov_w1 {m : Nat} {v : Int} {S : RS} {M : QM} : q_wr (ov m S M) m 1 (qi v) = ov m (up S 0 1 v) M := ov_wff rfl (fun _ => rfl)
theorem ov_w2 {m : Nat} {v : Int} {S : RS} {M : QM} : q_wr (ov m S M) m 2 (qi v) = ov m (up S 0 2 v) M := ov_wff rfl (fun _ => rfl)
theorem ov_w4 {m : Nat} {v : Int} {S : RS} {M : QM} : q_wr (ov m S M) m 4 (qi v) = ov m (up S 0 4 v) M := ov_wff rfl (fun _ => rfl)
theorem ov_w5 {m : Nat} {v : Int} {S : RS} {M : QM} : q_wr (ov m S M) m 5 (qi v) = ov m (up S 0 5 v) M := ov_wff rfl (fun _ => rfl)
theorem ov_w6 {m : Nat} {v : Int} {S : RS} {M : QM} : q_wr (ov m S M) m 6 (qi v) = ov m (up S 0 6 v) M := ov_wff rfl (fun _ => rfl)
theorem ov_w7 {m : Nat} {v : Int} {S : RS} {M : QM} : q_wr (ov m S M) m 7 (qi v) = ov m (up S 0 7 v) M := ov_wff rfl (fun _ => rfl)
theorem ov_w9 {m : Nat} {v : Int} {S : RS} {M : QM} : q_wr (ov m S M) m 9 (qi v) = ov m (up S 0 9 v) M := ov_wff rfl (fun _ => rfl)
theorem ov_w11 {m : Nat} {v : Int} {S : RS} {M : QM} : q_wr (ov m S M) m 11 (qi v) = ov m (up S 0 11 v) M := ov_wff rfl (fun _ => rfl)
theorem ov_w13 {m : Nat} {v : Int} {S : RS} {M : QM} : q_wr (ov m S M) m 13 (qi v) = ov m (up S 0 13 v) M := ov_wff rfl (fun _ => rfl)
theorem ov_w16 {m : Nat} {v : Int} {S : RS} {M : QM} : q_wr (ov m S M) m 16 (qi v) = ov m (up S 0 16 v) M := ov_wff rfl (fun _ => rfl)
theorem ov_ov {m : Nat} {S S' : RS} {M : QM} : ov m S (ov m S' M) = ov m S M := by
  unfold ov
  refine congrArg (Prod.mk _) (congrArg (fun f => Prod.mk f _) ?_)
  funext b i
  dsimp only
  by_cases hb : m ≤ b ∧ b < m + 8
  · rw [if_pos hb, if_pos hb]
  · rw [if_neg hb, if_neg hb, if_neg hb]
def RK (m : Nat) (M : QM) : Prop := q_kd M m = (1, 13) ∧ q_kd M (m + 1) = (2, 121275) ∧ q_kd M (m + 2) = (2, 80) ∧ q_kd M (m + 3) = (2, 8) ∧ q_kd M (m + 4) = (2, 1040) ∧ q_kd M (m + 5) = (2, 20) ∧ q_kd M (m + 6) = (2, 9) ∧ q_kd M (m + 7) = (2, 384)
def RG (S : RS) : Prop := ∀ k j, -2147483648 ≤ S k j ∧ S k j < 2147483648
theorem RG_up {S : RS} (h : RG S) {k : Nat} {j v : Int} (h1 : -2147483648 ≤ v) (h2 : v < 2147483648) : RG (up S k j v) := by
  intro k' j'
  unfold up
  split
  · exact ⟨h1, h2⟩
  · exact h k' j'
theorem RK0 {m : Nat} {M : QM} {S : RS} (h : RK m M) : q_kd (ov m S M) m = (1, 13) := h.1
theorem RK1a {m : Nat} {M : QM} {S : RS} (h : RK m M) : (q_kd (ov m S M) (m + 1)).1 = 2 := congrArg Prod.fst (h.2.1)
theorem RK1c {m : Nat} {M : QM} {S : RS} (h : RK m M) {j : Int} (hj : j < 121275) : j < ((q_kd (ov m S M) (m + 1)).2 : Int) := by
  have e : (q_kd (ov m S M) (m + 1)).2 = 121275 := congrArg Prod.snd (h.2.1)
  rw [e]; exact hj
theorem RK2a {m : Nat} {M : QM} {S : RS} (h : RK m M) : (q_kd (ov m S M) (m + 2)).1 = 2 := congrArg Prod.fst (h.2.2.1)
theorem RK2c {m : Nat} {M : QM} {S : RS} (h : RK m M) {j : Int} (hj : j < 80) : j < ((q_kd (ov m S M) (m + 2)).2 : Int) := by
  have e : (q_kd (ov m S M) (m + 2)).2 = 80 := congrArg Prod.snd (h.2.2.1)
  rw [e]; exact hj
theorem RK3a {m : Nat} {M : QM} {S : RS} (h : RK m M) : (q_kd (ov m S M) (m + 3)).1 = 2 := congrArg Prod.fst (h.2.2.2.1)
theorem RK3c {m : Nat} {M : QM} {S : RS} (h : RK m M) {j : Int} (hj : j < 8) : j < ((q_kd (ov m S M) (m + 3)).2 : Int) := by
  have e : (q_kd (ov m S M) (m + 3)).2 = 8 := congrArg Prod.snd (h.2.2.2.1)
  rw [e]; exact hj
theorem RK4a {m : Nat} {M : QM} {S : RS} (h : RK m M) : (q_kd (ov m S M) (m + 4)).1 = 2 := congrArg Prod.fst (h.2.2.2.2.1)
theorem RK4c {m : Nat} {M : QM} {S : RS} (h : RK m M) {j : Int} (hj : j < 1040) : j < ((q_kd (ov m S M) (m + 4)).2 : Int) := by
  have e : (q_kd (ov m S M) (m + 4)).2 = 1040 := congrArg Prod.snd (h.2.2.2.2.1)
  rw [e]; exact hj
theorem RK5a {m : Nat} {M : QM} {S : RS} (h : RK m M) : (q_kd (ov m S M) (m + 5)).1 = 2 := congrArg Prod.fst (h.2.2.2.2.2.1)
theorem RK5c {m : Nat} {M : QM} {S : RS} (h : RK m M) {j : Int} (hj : j < 20) : j < ((q_kd (ov m S M) (m + 5)).2 : Int) := by
  have e : (q_kd (ov m S M) (m + 5)).2 = 20 := congrArg Prod.snd (h.2.2.2.2.2.1)
  rw [e]; exact hj
theorem RK6a {m : Nat} {M : QM} {S : RS} (h : RK m M) : (q_kd (ov m S M) (m + 6)).1 = 2 := congrArg Prod.fst (h.2.2.2.2.2.2.1)
theorem RK6c {m : Nat} {M : QM} {S : RS} (h : RK m M) {j : Int} (hj : j < 9) : j < ((q_kd (ov m S M) (m + 6)).2 : Int) := by
  have e : (q_kd (ov m S M) (m + 6)).2 = 9 := congrArg Prod.snd (h.2.2.2.2.2.2.1)
  rw [e]; exact hj
theorem RK7a {m : Nat} {M : QM} {S : RS} (h : RK m M) : (q_kd (ov m S M) (m + 7)).1 = 2 := congrArg Prod.fst (h.2.2.2.2.2.2.2)
theorem RK7c {m : Nat} {M : QM} {S : RS} (h : RK m M) {j : Int} (hj : j < 384) : j < ((q_kd (ov m S M) (m + 7)).2 : Int) := by
  have e : (q_kd (ov m S M) (m + 7)).2 = 384 := congrArg Prod.snd (h.2.2.2.2.2.2.2)
  rw [e]; exact hj
theorem RGl {S : RS} (h : RG S) {k : Nat} {j : Int} : -2147483648 ≤ S k j := (h k j).1
theorem RGh {S : RS} (h : RG S) {k : Nat} {j : Int} : S k j < 2147483648 := (h k j).2
theorem ite_bI_t {p : Prop} {h0 : Decidable p} {h1 : Decidable (@bI p h0 = 0)} {A B : Prop} (h : p) : (@ite Prop (@bI p h0 = 0) h1 A B) = B := if_neg (by rw [bI_eq0]; exact fun g => g h)
theorem ite_bI_f {p : Prop} {h0 : Decidable p} {h1 : Decidable (@bI p h0 = 0)} {A B : Prop} (h : ¬ p) : (@ite Prop (@bI p h0 = 0) h1 A B) = A := if_pos (by rw [bI_eq0]; exact h)
