/-! ===== the class: a plan carried out ===== -/
theorem th_b {a : Int → Int} {t : Int} (h : TH a t) (h0 : 0 ≤ t) (h3 : a 3 ≤ 200) : (0 ≤ t % 1000 ∧ t % 1000 < a 3) ∧ ((foF t = 4 ∧ t = t % 1000) ∨ (foF t = 6 ∧ t = 1000 + t % 1000)) := by
  unfold TH at h
  unfold foF
  split <;> omega
theorem c_Stacks_take {d N : Nat} {P : am_P} {H : am_H} {a : Int → Int} {t : Int} (hP : PZ P) (hI : Inv a) (hT : RT H 10 a) (hth : TH a t) (h0 : 0 ≤ t) : am_C (d + 4) 224 [am_r 14, am_i t] (N, P, H) (SQ N P H none (lvF a (t % 1000) (foF t))) := by
  have hn := hI.n
  obtain ⟨hb, h | h⟩ := th_b hth h0 (by omega)
  · rw [h.1]
    have := c_Stacks_take4 (d := d) (N := N) hP hI hT hb
    rw [← h.2] at this
    rw [← h.2]
    exact this
  · rw [h.1]
    have := c_Stacks_take6 (d := d) (N := N) hP hI hT hb
    rw [← h.2] at this
    exact this
theorem c_Stacks_put {d N : Nat} {P : am_P} {H : am_H} {a : Int → Int} {t s p : Int} (hP : PZ P) (hI : Inv a) (hT : RT H 10 a) (hth : TH a t) (h0 : 0 ≤ t) (hs : 0 ≤ s ∧ s < a 2) (hq : 0 ≤ p ∧ p < 30) : am_C (d + 5) 225 [am_r 14, am_i t, am_i s, am_i p] (N, P, H) (SQ N P H none (cmF a (t % 1000) (foF t) s p)) := by
  have hn := hI.n
  obtain ⟨hb, h | h⟩ := th_b hth h0 (by omega)
  · rw [h.1]
    have := c_Stacks_put4 (d := d) (N := N) hP hI hT hb hs hq
    rw [← h.2] at this
    rw [← h.2]
    exact this
  · rw [h.1]
    have := c_Stacks_put6 (d := d) (N := N) hP hI hT hb hs hq
    rw [← h.2] at this
    exact this
theorem TH_kp {a A : Int → Int} (h : KP a A) {t : Int} (ht : TH a t) : TH A t := by
  unfold TH
  rw [h.2.1 3 (by omega)]
  exact ht

theorem l1_asThen {d N : Nat} {P : am_P} {H : am_H} {a : Int → Int} {f : Int} {m : Nat} (hP : PZ P) (hI : Inv a) (hT : RT H 10 a) (h11 : H 43 11 = f) (h12 : H 43 12 = (m : Int)) (hf : 0 ≤ f ∧ f + (m : Int) ≤ a 2) {k : Nat} (hk : k < m) (hx : (∀ u : Nat, u < 30 * k + 30 → H 52 (u : Int) = gW a f u) → am_WP (am_R (d + 3)) cd_Shifter_isAsThen (fun v σ => ∃ x, v = some (am_i x) ∧ σ = (N, P, H) ∧ ((x = 1 ∧ ∀ u : Nat, u < 30 * m → H 52 (u : Int) = gW a f u) ∨ (x = 0 ∧ ¬ ∀ u : Nat, u < 30 * m → H 52 (u : Int) = gW a f u))) 31 [some (am_r 43), some (am_r 14), some (am_i (k : Int)), some (am_i 30)] [] (N, P, H)) : ∀ p : Nat, p ≤ 30 → (∀ u : Nat, u < 30 * k + p → H 52 (u : Int) = gW a f u) → am_WP (am_R (d + 3)) cd_Shifter_isAsThen (fun v σ => ∃ x, v = some (am_i x) ∧ σ = (N, P, H) ∧ ((x = 1 ∧ ∀ u : Nat, u < 30 * m → H 52 (u : Int) = gW a f u) ∨ (x = 0 ∧ ¬ ∀ u : Nat, u < 30 * m → H 52 (u : Int) = gW a f u))) 8 [some (am_r 43), some (am_r 14), some (am_i (k : Int)), some (am_i (p : Int))] [] (N, P, H) := by
  have hn := hI.n
  refine up_ind (n := 30) ?_ ?_
  · intro g
    refine st_iload_n rfl rfl ?_
    refine st_bipush rfl ?_
    refine st_icmp_ge rfl (fun h10 => ?_) (fun h10 => (by exfalso; omega))
    exact hx g
  · intro p hp ih g
    have hgw : tgA a (f + (k : Int)) (p : Int) = gW a f (30 * k + p) := by rw [gW_is (by omega)]; exact if_pos ⟨by omega, by omega, by omega⟩
    have hix : (k : Int) * 30 + (p : Int) = ((30 * k + p : Nat) : Int) := by omega
    refine st_iload_n rfl rfl ?_
    refine st_bipush rfl ?_
    refine st_icmp_ge rfl (fun h10 => (by exfalso; omega)) (fun h10 => ?_)
    refine st_aload_n rfl rfl (by decide) ?_
    refine st_getR (kk := 14) rfl rfl rfl (pz_43_14 hP) rfl ?_
    refine st_iload_n rfl rfl ?_
    refine st_bipush rfl ?_
    refine st_imul rfl (by omega) ?_
    refine st_iload_n rfl rfl ?_
    refine st_iadd rfl (by omega) ?_
    rw [hix]
    refine st_iaload rfl rfl (by omega) (by omega) ?_
    refine st_aload_n rfl rfl (by decide) ?_
    refine st_aload_n rfl rfl (by decide) ?_
    refine st_getI (kk := 11) rfl rfl (by decide) rfl ?_
    rw [h11]
    refine st_iload_n rfl rfl ?_
    refine st_iadd rfl (by omega) ?_
    refine st_iload_n rfl rfl ?_
    refine st_cv1 (w := [_]) rfl rfl rfl (Nat.le_of_ble_eq_true rfl) (Nat.le_of_ble_eq_true rfl) rfl rfl (r_Stacks_thingAt hP hI hT) ?_
    rw [hgw]
    refine st_icmp_eq rfl (fun h26 => ?_) (fun h26 => ?_)
    · refine st_iinc (ls' := [_, _, _, _]) rfl rfl (by omega) rfl ?_
      refine st_goto rfl ?_
      exact ih (fun u hu => by
        by_cases hu2 : u = 30 * k + p
        · rw [hu2]; exact h26
        · exact g u (by omega))
    · refine st_iconst rfl ?_
      refine st_iret rfl (fun z => by first | exact absurd z (by decide) | exact bi_01 _ | decide | omega) ?_
      exact ⟨0, rfl, rfl, Or.inr ⟨rfl, fun z => h26 (z (30 * k + p) (by omega))⟩⟩
theorem c_asThen {d N : Nat} {P : am_P} {H : am_H} {a : Int → Int} {f : Int} {m : Nat} (hP : PZ P) (hI : Inv a) (hT : RT H 10 a) (h11 : H 43 11 = f) (h12 : H 43 12 = (m : Int)) (hf : 0 ≤ f ∧ f + (m : Int) ≤ a 2) (hm : m ≤ 16) : am_C (d + 4) 207 [am_r 43, am_r 14] (N, P, H) (fun v σ => ∃ x, v = some (am_i x) ∧ σ = (N, P, H) ∧ ((x = 1 ∧ ∀ u : Nat, u < 30 * m → H 52 (u : Int) = gW a f u) ∨ (x = 0 ∧ ¬ ∀ u : Nat, u < 30 * m → H 52 (u : Int) = gW a f u))) := by
  refine am_enC (d := d + 3) (ml := 4) (ls := [_, _, _, _]) cq_Shifter_isAsThen rfl (Nat.le_of_ble_eq_true rfl) rfl ?_
  have hn := hI.n
  refine st_iconst rfl ?_
  refine st_istore_n (ls' := [_, _, _, _]) rfl (Nat.le_of_ble_eq_true rfl) rfl ?_
  suffices hz : ∀ k, k ≤ m → (∀ u : Nat, u < 30 * k → H 52 (u : Int) = gW a f u) → ∀ w3, am_WP (am_R (d + 3)) cd_Shifter_isAsThen (fun v σ => ∃ x, v = some (am_i x) ∧ σ = (N, P, H) ∧ ((x = 1 ∧ ∀ u : Nat, u < 30 * m → H 52 (u : Int) = gW a f u) ∨ (x = 0 ∧ ¬ ∀ u : Nat, u < 30 * m → H 52 (u : Int) = gW a f u))) 2 [some (am_r 43), some (am_r 14), some (am_i (k : Int)), w3] [] (N, P, H) from hz 0 (Nat.zero_le _) (fun u hu => by omega) _
  refine up_ind (n := m) ?_ ?_
  · intro g w3
    refine st_iload_n rfl rfl ?_
    refine st_aload_n rfl rfl (by decide) ?_
    refine st_getI (kk := 12) rfl rfl (by decide) rfl ?_
    rw [h12]
    refine st_icmp_ge rfl (fun h5 => ?_) (fun h5 => (by exfalso; omega))
    refine st_iconst rfl ?_
    refine st_iret rfl (fun z => by first | exact absurd z (by decide) | exact bi_01 _ | decide | omega) ?_
    exact ⟨1, rfl, rfl, Or.inl ⟨rfl, g⟩⟩
  · intro k hk ih g w3
    refine st_iload_n rfl rfl ?_
    refine st_aload_n rfl rfl (by decide) ?_
    refine st_getI (kk := 12) rfl rfl (by decide) rfl ?_
    rw [h12]
    refine st_icmp_ge rfl (fun h5 => (by exfalso; omega)) (fun h5 => ?_)
    refine st_iconst rfl ?_
    refine st_istore_n (ls' := [_, _, _, _]) rfl (Nat.le_of_ble_eq_true rfl) rfl ?_
    refine l1_asThen hP hI hT h11 h12 hf hk (fun g => ?_) 0 (Nat.zero_le _) g
    refine st_iinc (ls' := [_, _, _, _]) rfl rfl (by omega) rfl ?_
    refine st_goto rfl ?_
    exact ih g _
/-- what carrying out a plan leaves -/
def COQ (N : Nat) (P : am_P) (H : am_H) (a : Int → Int) (f l : Int) (pl S : Int → Int) (v : Option am_V) (σ : am_S) : Prop := ∃ H' : am_H, σ = (N, P, H') ∧ (∀ o, o < 14 ∨ (25 < o ∧ o < 43) ∨ 47 < o → H' o = H o) ∧ (∀ k, k ≠ 0 → k ≠ 10 → H' 43 k = H 43 k) ∧ H' 43 10 = 0 ∧
  ((H 43 10 = 1 ∧ ∀ u : Nat, u < shT f l → gW a f u = S (u : Int)) → v = some (am_i 1) ∧ RT H' 10 (lfF a f l pl)) ∧ (¬ (H 43 10 = 1 ∧ ∀ u : Nat, u < shT f l → gW a f u = S (u : Int)) → v = some (am_i 0) ∧ RT H' 10 a)

theorem l1_carry {d N : Nat} {P : am_P} {H1 : am_H} {a : Int → Int} {f l : Int} {pl S : Int → Int} {Q : Option am_V → am_S → Prop} (hP : PZ P) (hI : Inv a) (hO : PlanOK a f l pl S) (hpl : pl (l - f) = (shN a f l : Int)) (h0 : H1 43 0 = (shN a f l : Int)) (h11 : H1 43 11 = f) (h12 : H1 43 12 = l - f + 1) (h44 : ∀ x, 0 ≤ x → x < (shN a f l : Int) → H1 44 x = shI a f l x) (hh51 : ∀ k : Nat, (k : Int) ≤ l - f → H1 51 (k : Int) = pl (k : Int)) (hx : ∀ (H' : am_H) , (∀ o, o < 14 ∨ 25 < o → H' o = H1 o) → RT H' 10 (lvA a (shI a f l) (shN a f l)) → am_WP (am_R (d + 5)) cd_Shifter_carryOut Q 44 [some (am_r 43), some (am_r 14), some (am_i 1), some (am_i (shN a f l : Int)), none, none] [] (N, P, H')) : ∀ k : Nat, k ≤ shN a f l → ∀ H' : am_H, (∀ o, o < 14 ∨ 25 < o → H' o = H1 o) → RT H' 10 (lvA a (shI a f l) k) → am_WP (am_R (d + 5)) cd_Shifter_carryOut Q 32 [some (am_r 43), some (am_r 14), some (am_i 1), some (am_i (k : Int)), none, none] [] (N, P, H') := by
  have hn := hI.n
  have hO0 := hO.1
  have hz := hO.2.2.2
  have hit := sh_it hI hO0
  have h200 := sh_200 hI hO0.1 hO0.2.2 hz
  refine up_ind (n := shN a f l) ?_ ?_
  · intro H' fr hT
    refine st_iload_n rfl rfl ?_
    refine st_aload_n rfl rfl (by decide) ?_
    refine st_getI (kk := 0) rfl rfl (by decide) rfl ?_
    rw [fr _ (by decide), h0]
    refine st_icmp_ge rfl (fun h35 => ?_) (fun h35 => (by exfalso; omega))
    exact hx H' fr hT
  · intro k hk ih H' fr hT
    have hkp := (lvA_ok hI hO0.1 hO0.2.2 hz k (by omega)).1
    have ht := hit (k : Int) (by omega) (by omega)
    refine st_iload_n rfl rfl ?_
    refine st_aload_n rfl rfl (by decide) ?_
    refine st_getI (kk := 0) rfl rfl (by decide) rfl ?_
    rw [fr _ (by decide), h0]
    refine st_icmp_ge rfl (fun h35 => (by exfalso; omega)) (fun h35 => ?_)
    refine st_aload_n rfl rfl (by decide) ?_
    refine st_aload_n rfl rfl (by decide) ?_
    refine st_getR (kk := 1) rfl rfl rfl (pz_43_1 hP) rfl ?_
    refine st_iload_n rfl rfl ?_
    refine st_iaload rfl rfl (by omega) (by omega) ?_
    rw [fr _ (by decide), h44 _ (by omega) (by omega)]
    refine st_cvC (w := []) rfl rfl rfl (Nat.le_of_ble_eq_true rfl) (Nat.le_of_ble_eq_true rfl) rfl rfl (c_Stacks_take hP hkp.1 hT (TH_kp hkp ht.2) ht.1) ?_
    rintro v σ ⟨rfl, H2, rfl, f2, hT2⟩
    show am_WP _ _ _ _ _ [] _
    refine st_iinc (ls' := [_, _, _, _, _, _]) rfl rfl (by omega) rfl ?_
    refine st_goto rfl ?_
    exact ih H2 (fun o ho => by rw [f2 o (by omega)]; exact fr o ho) hT2
theorem l3_carry {d N : Nat} {P : am_P} {H1 : am_H} {a : Int → Int} {f l : Int} {pl S : Int → Int} {Q : Option am_V → am_S → Prop} (hP : PZ P) (hI : Inv a) (hO : PlanOK a f l pl S) (hpl : pl (l - f) = (shN a f l : Int)) (h0 : H1 43 0 = (shN a f l : Int)) (h11 : H1 43 11 = f) (h12 : H1 43 12 = l - f + 1) (h44 : ∀ x, 0 ≤ x → x < (shN a f l : Int) → H1 44 x = shI a f l x) (hh51 : ∀ k : Nat, (k : Int) ≤ l - f → H1 51 (k : Int) = pl (k : Int)) {k : Nat} (hk : (k : Int) ≤ l - f) (hx : ∀ (H' : am_H), (∀ o, o < 14 ∨ 25 < o → H' o = H1 o) → RT H' 10 (lfC (lvA a (shI a f l) (shN a f l)) (shI a f l) pl f (k + 1)) → am_WP (am_R (d + 5)) cd_Shifter_carryOut Q 79 [some (am_r 43), some (am_r 14), some (am_i 1), some (am_i (pbF pl k)), some (am_i (k : Int)), some (am_i (pl (k : Int)))] [] (N, P, H')) : ∀ c : Nat, c ≤ (pl (k : Int) - pbF pl k).toNat → ∀ H' : am_H, (∀ o, o < 14 ∨ 25 < o → H' o = H1 o) → RT H' 10 (inC (lfC (lvA a (shI a f l) (shN a f l)) (shI a f l) pl f k) (shI a f l) (f + (k : Int)) (pbF pl k) c) → am_WP (am_R (d + 5)) cd_Shifter_carryOut Q 54 [some (am_r 43), some (am_r 14), some (am_i 1), some (am_i (pbF pl k)), some (am_i (k : Int)), some (am_i (pbF pl k + (c : Int)))] [] (N, P, H') := by
  have hn := hI.n
  have hO0 := hO.1
  have hz := hO.2.2.2
  have hit := sh_it hI hO0
  have h200 := sh_200 hI hO0.1 hO0.2.2 hz
  have hpk := hO.2.1 k hk
  have hle := plan_le hO k hk
  have hcok := lfC_ok hI hO hpl k (by omega)
  refine up_ind (n := (pl (k : Int) - pbF pl k).toNat) ?_ ?_
  · intro H' fr hT
    rw [show pbF pl k + (((pl (k : Int) - pbF pl k).toNat : Nat) : Int) = pl (k : Int) by omega]
    refine st_iload rfl rfl ?_
    refine st_aload_n rfl rfl (by decide) ?_
    refine st_getR (kk := 13) rfl rfl rfl (pz_43_13 hP) rfl ?_
    refine st_iload rfl rfl ?_
    refine st_iaload rfl rfl (by omega) (by omega) ?_
    rw [fr _ (by decide), hh51 k hk]
    refine st_icmp_ge rfl (fun h59 => ?_) (fun h59 => (by exfalso; omega))
    exact hx H' fr hT
  · intro c hc ih H' fr hT
    have hin := inC_ok hI hO0.1 hO0.2.2 hz hcok.1 (s := f + (k : Int)) (b := pbF pl k) (by omega) (by omega) (fun s' p s0 s1 p0 p1 => hcok.2 s' p (by omega) s1 p0 p1) c (by omega) (by omega)
    have ht := hit (pbF pl k + (c : Int)) (by omega) (by omega)
    refine st_iload rfl rfl ?_
    refine st_aload_n rfl rfl (by decide) ?_
    refine st_getR (kk := 13) rfl rfl rfl (pz_43_13 hP) rfl ?_
    refine st_iload rfl rfl ?_
    refine st_iaload rfl rfl (by omega) (by omega) ?_
    rw [fr _ (by decide), hh51 k hk]
    refine st_icmp_ge rfl (fun h59 => (by exfalso; omega)) (fun h59 => ?_)
    refine st_iload rfl rfl ?_
    refine st_aload_n rfl rfl (by decide) ?_
    refine st_getI (kk := 0) rfl rfl (by decide) rfl ?_
    rw [fr _ (by decide), h0]
    refine st_icmp_ge rfl (fun h63 => (by exfalso; omega)) (fun h63 => ?_)
    refine st_aload_n rfl rfl (by decide) ?_
    refine st_aload_n rfl rfl (by decide) ?_
    refine st_getR (kk := 1) rfl rfl rfl (pz_43_1 hP) rfl ?_
    refine st_iload rfl rfl ?_
    refine st_iaload rfl rfl (by omega) (by omega) ?_
    rw [fr _ (by decide), h44 _ (by omega) (by omega)]
    refine st_aload_n rfl rfl (by decide) ?_
    refine st_getI (kk := 11) rfl rfl (by decide) rfl ?_
    rw [fr _ (by decide), h11]
    refine st_iload rfl rfl ?_
    refine st_iadd rfl (by omega) ?_
    refine st_iload rfl rfl ?_
    refine st_iload_n rfl rfl ?_
    refine st_isub rfl (by omega) ?_
    rw [show pbF pl k + (c : Int) - pbF pl k = (c : Int) by omega]
    refine st_cvC (w := []) rfl rfl rfl (Nat.le_of_ble_eq_true rfl) (Nat.le_of_ble_eq_true rfl) rfl rfl (c_Stacks_put hP hin.1.1 hT (TH_kp hin.1 ht.2) ht.1 (by rw [hin.1.2.1 2 (by omega)]; omega) (by omega)) ?_
    rintro v σ ⟨rfl, H2, rfl, f2, hT2⟩
    show am_WP _ _ _ _ _ [] _
    refine st_iinc (ls' := [_, _, _, _, _, _]) rfl rfl (by omega) rfl ?_
    refine st_goto rfl ?_
    rw [show pbF pl k + (c : Int) + 1 = pbF pl k + ((c + 1 : Nat) : Int) by omega]
    exact ih H2 (fun o ho => by rw [f2 o (by omega)]; exact fr o ho) hT2
theorem l2_carry {d N : Nat} {P : am_P} {H1 : am_H} {a : Int → Int} {f l : Int} {pl S : Int → Int} {Q : Option am_V → am_S → Prop} (hP : PZ P) (hI : Inv a) (hO : PlanOK a f l pl S) (hpl : pl (l - f) = (shN a f l : Int)) (h0 : H1 43 0 = (shN a f l : Int)) (h11 : H1 43 11 = f) (h12 : H1 43 12 = l - f + 1) (h44 : ∀ x, 0 ≤ x → x < (shN a f l : Int) → H1 44 x = shI a f l x) (hh51 : ∀ k : Nat, (k : Int) ≤ l - f → H1 51 (k : Int) = pl (k : Int)) (hx : ∀ (H' : am_H), (∀ o, o < 14 ∨ 25 < o → H' o = H1 o) → RT H' 10 (lfF a f l pl) → Q (some (am_i 1)) (N, P, H')) : ∀ k : Nat, k ≤ (l - f + 1).toNat → ∀ (H' : am_H) w5, (∀ o, o < 14 ∨ 25 < o → H' o = H1 o) → RT H' 10 (lfC (lvA a (shI a f l) (shN a f l)) (shI a f l) pl f k) → am_WP (am_R (d + 5)) cd_Shifter_carryOut Q 48 [some (am_r 43), some (am_r 14), some (am_i 1), some (am_i (pbF pl k)), some (am_i (k : Int)), w5] [] (N, P, H') := by
  have hn := hI.n
  have hO0 := hO.1
  have hz := hO.2.2.2
  have hit := sh_it hI hO0
  have h200 := sh_200 hI hO0.1 hO0.2.2 hz
  refine up_ind (n := (l - f + 1).toNat) ?_ ?_
  · intro H' w5 fr hT
    refine st_iload rfl rfl ?_
    refine st_aload_n rfl rfl (by decide) ?_
    refine st_getI (kk := 12) rfl rfl (by decide) rfl ?_
    rw [fr _ (by decide), h12]
    refine st_icmp_ge rfl (fun h51 => ?_) (fun h51 => (by exfalso; omega))
    refine st_iconst rfl ?_
    refine st_iret rfl (fun z => by first | exact absurd z (by decide) | exact bi_01 _ | decide | omega) ?_
    exact hx H' fr hT
  · intro k hk ih H' w5 fr hT
    have hps : pbF pl (k + 1) = pl (k : Int) := by
      unfold pbF
      rw [if_neg (by omega), show ((k + 1 : Nat) : Int) - 1 = (k : Int) by omega]
    refine st_iload rfl rfl ?_
    refine st_aload_n rfl rfl (by decide) ?_
    refine st_getI (kk := 12) rfl rfl (by decide) rfl ?_
    rw [fr _ (by decide), h12]
    refine st_icmp_ge rfl (fun h51 => (by exfalso; omega)) (fun h51 => ?_)
    refine st_iload_n rfl rfl ?_
    refine st_istore (ls' := [_, _, _, _, _, _]) rfl (Nat.le_of_ble_eq_true rfl) rfl ?_
    have hz := l3_carry (d := d) (N := N) (Q := Q) hP hI hO hpl h0 h11 h12 h44 hh51 (k := k) (by omega) (fun H' fr hT => ?_) 0 (Nat.zero_le _) H' fr hT
    · rw [show pbF pl k + ((0 : Nat) : Int) = pbF pl k by omega] at hz
      exact hz
    · refine st_aload_n rfl rfl (by decide) ?_
      refine st_getR (kk := 13) rfl rfl rfl (pz_43_13 hP) rfl ?_
      refine st_iload rfl rfl ?_
      refine st_iaload rfl rfl (by omega) (by omega) ?_
      rw [fr _ (by decide), hh51 k (by omega)]
      refine st_istore_n (ls' := [_, _, _, _, _, _]) rfl (Nat.le_of_ble_eq_true rfl) rfl ?_
      refine st_iinc (ls' := [_, _, _, _, _, _]) rfl rfl (by omega) rfl ?_
      refine st_goto rfl ?_
      rw [← hps]
      exact ih H' _ fr hT
theorem c_carry {d N : Nat} {P : am_P} {H : am_H} {a : Int → Int} {f l : Int} {pl S : Int → Int} (hP : PZ P) (hI : Inv a) (hT : RT H 10 a) (hq : H 43 10 = 0 ∨ H 43 10 = 1) (h1 : H 43 10 = 1 → PlanOK a f l pl S ∧ H 43 11 = f ∧ H 43 12 = l - f + 1 ∧ (∀ k : Nat, (k : Int) ≤ l - f → H 51 (k : Int) = pl (k : Int)) ∧ ∀ u : Nat, u < shT f l → H 52 (u : Int) = S (u : Int)) : am_C (d + 6) 206 [am_r 43, am_r 14] (N, P, H) (COQ N P H a f l pl S) := by
  refine am_enC (d := d + 5) (ml := 6) (ls := [_, _, _, _, _, _]) cq_Shifter_carryOut rfl (Nat.le_of_ble_eq_true rfl) rfl ?_
  have hn := hI.n
  refine st_aload_n rfl rfl (by decide) ?_
  refine st_getI (kk := 10) rfl rfl (by decide) rfl ?_
  refine st_if_eq rfl (fun h2 => ?_) (fun h2 => ?_)
  · refine st_iconst rfl ?_
    refine st_istore_n (ls' := [_, _, _, _, _, _]) rfl (Nat.le_of_ble_eq_true rfl) rfl ?_
    refine st_aload_n rfl rfl (by decide) ?_
    refine st_iconst rfl ?_
    refine st_putZ (kk := 10) rfl rfl rfl (by first | exact bi_01 _ | decide | omega) rfl ?_
    refine st_iload_n rfl rfl ?_
    refine st_if_ne rfl (fun h15 => (by exfalso; omega)) (fun h15 => ?_)
    refine st_iconst rfl ?_
    refine st_iret rfl (fun z => by first | exact absurd z (by decide) | exact bi_01 _ | decide | omega) ?_
    first
    | (refine ⟨_, rfl, fun o ho => am_up_ne (by omega), fun k k0 k1 => by rw [am_up_eq, am_uf_ne _ _ k1], by rw [am_up_eq, am_uf_eq], fun z => absurd z ?_, fun _ => ⟨rfl, hT.so (by decide)⟩⟩
       omega)
    | (refine ⟨_, rfl, fun o ho => am_up_ne (by omega), fun k k0 k1 => by rw [am_up_eq, am_uf_ne _ _ k1], by rw [am_up_eq, am_uf_eq], fun z => absurd z ?_, fun _ => ⟨rfl, hT.so (by decide)⟩⟩
       intro z
       rcases hxx with q | q
       · omega
       · exact q.2 (fun u hu => by rw [g52 u (by omega), z.2 u (by omega)]))
  · have hsf : shT f l = 30 * (l - f + 1).toNat := by unfold shT; omega
    obtain ⟨hO, g11, g12, g51, g52⟩ := h1 (by omega)
    have hO0 := hO.1
    refine st_aload_n rfl rfl (by decide) ?_
    refine st_aload_n rfl rfl (by decide) ?_
    refine st_cvC (w := []) rfl rfl rfl (Nat.le_of_ble_eq_true rfl) (Nat.le_of_ble_eq_true rfl) rfl rfl (c_asThen (m := (l - f + 1).toNat) hP hI hT g11 (by rw [g12]; omega) (by omega) (by omega)) ?_
    rintro v σ ⟨x, rfl, rfl, hxx⟩
    show am_WP _ _ _ _ _ [am_i x] _
    refine st_if_eq rfl (fun h6 => ?_) (fun h6 => ?_)
    · refine st_iconst rfl ?_
      refine st_istore_n (ls' := [_, _, _, _, _, _]) rfl (Nat.le_of_ble_eq_true rfl) rfl ?_
      refine st_aload_n rfl rfl (by decide) ?_
      refine st_iconst rfl ?_
      refine st_putZ (kk := 10) rfl rfl rfl (by first | exact bi_01 _ | decide | omega) rfl ?_
      refine st_iload_n rfl rfl ?_
      refine st_if_ne rfl (fun h15 => (by exfalso; omega)) (fun h15 => ?_)
      refine st_iconst rfl ?_
      refine st_iret rfl (fun z => by first | exact absurd z (by decide) | exact bi_01 _ | decide | omega) ?_
      first
      | (refine ⟨_, rfl, fun o ho => am_up_ne (by omega), fun k k0 k1 => by rw [am_up_eq, am_uf_ne _ _ k1], by rw [am_up_eq, am_uf_eq], fun z => absurd z ?_, fun _ => ⟨rfl, hT.so (by decide)⟩⟩
         omega)
      | (refine ⟨_, rfl, fun o ho => am_up_ne (by omega), fun k k0 k1 => by rw [am_up_eq, am_uf_ne _ _ k1], by rw [am_up_eq, am_uf_eq], fun z => absurd z ?_, fun _ => ⟨rfl, hT.so (by decide)⟩⟩
         intro z
         rcases hxx with q | q
         · omega
         · exact q.2 (fun u hu => by rw [g52 u (by omega), z.2 u (by omega)]))
    · refine st_iconst rfl ?_
      refine st_goto rfl ?_
      refine st_istore_n (ls' := [_, _, _, _, _, _]) rfl (Nat.le_of_ble_eq_true rfl) rfl ?_
      refine st_aload_n rfl rfl (by decide) ?_
      refine st_iconst rfl ?_
      refine st_putZ (kk := 10) rfl rfl rfl (by first | exact bi_01 _ | decide | omega) rfl ?_
      refine st_iload_n rfl rfl ?_
      refine st_if_ne rfl (fun h15 => ?_) (fun h15 => (by exfalso; omega))
      have hall : ∀ u : Nat, u < shT f l → gW a f u = S (u : Int) := fun u hu => by
        rcases hxx with z | z
        · rw [← g52 u hu, z.2 u (by omega)]
        · omega
      refine st_aload_n rfl rfl (by decide) ?_
      refine st_aload_n rfl rfl (by decide) ?_
      refine st_aload_n rfl rfl (by decide) ?_
      refine st_getI (kk := 11) rfl rfl (by decide) rfl ?_
      rw [show am_up H 43 10 0 43 11 = f by rw [am_up_eq, am_uf_ne _ _ (by omega)]; exact g11]
      refine st_aload_n rfl rfl (by decide) ?_
      refine st_getI (kk := 11) rfl rfl (by decide) rfl ?_
      rw [show am_up H 43 10 0 43 11 = f by rw [am_up_eq, am_uf_ne _ _ (by omega)]; exact g11]
      refine st_aload_n rfl rfl (by decide) ?_
      refine st_getI (kk := 12) rfl rfl (by decide) rfl ?_
      rw [show am_up H 43 10 0 43 12 = l - f + 1 by rw [am_up_eq, am_uf_ne _ _ (by omega)]; exact g12]
      refine st_iadd rfl (by omega) ?_
      refine st_iconst rfl ?_
      refine st_isub rfl (by omega) ?_
      rw [show f + (l - f + 1) - 1 = l by omega]
      refine st_cvC (w := []) rfl rfl rfl (Nat.le_of_ble_eq_true rfl) (Nat.le_of_ble_eq_true rfl) rfl rfl (c_gather (a := a) (f := f) (l := l) hP hI (hT.so (o := 43) (by decide)) hO0 (by rw [← gN_shN]; have := sh_200 hI hO0.1 hO0.2.2 hO.2.2.2; omega)) ?_
      rintro v σ ⟨rfl, H1, rfl, gi⟩
      show am_WP _ _ _ _ _ [] _
      obtain ⟨hgx, hg4⟩ := GI_gx hI hO0 hO.2.2.2 gi
      have hpl : pl (l - f) = (shN a f l : Int) := by rw [hO.2.2.1, gN_shN, cnS_gN _ hall]
      have hT1 : RT H1 10 a := (hT.so (o := 43) (f := am_uf (H 43) 10 0) (by decide)).cgh (fun k k0 k1 => gi.1 k (by omega))
      have e43 : ∀ k, k ≠ 0 → k ≠ 10 → H1 43 k = H 43 k := fun k k0 k1 => by rw [gi.2.1 k k0, am_up_eq, am_uf_ne _ _ k1]
      refine st_iconst rfl ?_
      refine st_istore_n (ls' := [_, _, _, _, _, _]) rfl (Nat.le_of_ble_eq_true rfl) rfl ?_
      refine l1_carry hP hI hO hpl hgx.1 (by rw [e43 11 (by omega) (by omega)]; exact g11) (by rw [e43 12 (by omega) (by omega)]; exact g12) (fun x x0 x1 => (hg4 x x0 x1).1) (fun k hk => by rw [gi.1 _ (by decide), am_up_ne (by decide)]; exact g51 k hk) (fun H' fr hT' => ?_) 0 (Nat.zero_le _) H1 (fun _ _ => rfl) hT1
      refine st_iconst rfl ?_
      refine st_istore_n (ls' := [_, _, _, _, _, _]) rfl (Nat.le_of_ble_eq_true rfl) rfl ?_
      refine st_iconst rfl ?_
      refine st_istore (ls' := [_, _, _, _, _, _]) rfl (Nat.le_of_ble_eq_true rfl) rfl ?_
      refine l2_carry hP hI hO hpl hgx.1 (by rw [e43 11 (by omega) (by omega)]; exact g11) (by rw [e43 12 (by omega) (by omega)]; exact g12) (fun x x0 x1 => (hg4 x x0 x1).1) (fun k hk => by rw [gi.1 _ (by decide), am_up_ne (by decide)]; exact g51 k hk) (fun H2 fr2 hT2 => ?_) 0 (Nat.zero_le _) H' none fr hT'
      refine ⟨H2, rfl, fun o ho => by rw [fr2 o (by omega), gi.1 o (by omega), am_up_ne (by omega)], fun k k0 k1 => by rw [fr2 _ (by decide), e43 k k0 k1], by rw [fr2 _ (by decide), gi.2.1 10 (by omega), am_up_eq, am_uf_eq], fun _ => ⟨rfl, hT2⟩, fun z => absurd ⟨by omega, hall⟩ z⟩
