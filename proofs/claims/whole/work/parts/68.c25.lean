/-! ===== what is read is what is written ===== -/
theorem dg_s (h : Int → Int) (p : Int) (j : Nat) : dgF h p (j + 1) = if (dgF h p j).2 = (j : Int) ∧ isD (h (p + (j : Int))) then (10 * (dgF h p j).1 + h (p + (j : Int)) - 48, (j : Int) + 1) else dgF h p j := rfl
theorem ltF_st (h : Int → Int) (p : Int) (j : Nat) : ltF h p (j + 1) = if (ltF h p j).2 = (j : Int) ∧ isL (h (p + (j : Int))) then (27 * (ltF h p j).1 + h (p + (j : Int)) - 65 + 1, (j : Int) + 1) else ltF h p j := rfl
theorem dg_le {h : Int → Int} {n p : Int} (hz : ∀ x, n ≤ x → h x = -1) (hp : p ≤ n) : ∀ m : Nat, p + (dgF h p m).2 ≤ n
  | 0 => by show p + 0 ≤ n; omega
  | m + 1 => by
    have ih := dg_le hz hp m
    rw [dg_s]
    split
    · rename_i hc
      have : ¬ n ≤ p + (m : Int) := fun z => by have := hz _ z; have := hc.2; omega
      show p + ((m : Int) + 1) ≤ n
      omega
    · exact ih
theorem lt_le {h : Int → Int} {n p : Int} (hz : ∀ x, n ≤ x → h x = -1) (hp : p ≤ n) : ∀ m : Nat, p + (ltF h p m).2 ≤ n
  | 0 => by show p + 0 ≤ n; omega
  | m + 1 => by
    have ih := lt_le hz hp m
    rw [ltF_st]
    split
    · rename_i hc
      have : ¬ n ≤ p + (m : Int) := fun z => by have := hz _ z; have := hc.2; omega
      show p + ((m : Int) + 1) ≤ n
      omega
    · exact ih
theorem cd_le {h : Int → Int} {n p kd : Int} (hz : ∀ x, n ≤ x → h x = -1) (hp : p < n) : (cdF h p kd).pos ≤ n := by
  unfold cdF
  split
  · exact dg_le hz (by omega) 3
  · show p + 1 ≤ n; omega
theorem po_le {h : Int → Int} {n p dec work : Int} (hz : ∀ x, n ≤ x → h x = -1) (hp : p < n) (hlt1 : h (p + 1) ≠ -1 → p + 1 < n) : (poF h p dec work).pos ≤ n := by
  unfold poF
  split
  · exact dg_le hz (by omega) 6
  · split
    · rename_i hl
      have := hlt1 (by omega)
      exact dg_le hz (by omega) 5
    · show p + 1 ≤ n; omega
theorem np_le {h : Int → Int} {n p b bl : Int} (hz : ∀ x, n ≤ x → h x = -1) (hp : p ≤ n) : (npF h p b bl).pos ≤ n := by
  have hlt : h p ≠ -1 → p < n := fun z => by
    by_cases hq : n ≤ p
    · exact absurd (hz p hq) z
    · omega
  have hlt1 : h (p + 1) ≠ -1 → p + 1 < n := fun z => by
    by_cases hq : n ≤ p + 1
    · exact absurd (hz _ hq) z
    · omega
  unfold npF
  split
  · split
    · exact cd_le hz (hlt (by omega))
    · exact hp
  · split
    · exact lt_le hz hp 3
    · split
      · split
        · exact hp
        · unfold whF
          exact dg_le hz hp _
      · split
        · rename_i hq
          have hq := hlt (by omega)
          exact po_le hz hq hlt1
        · split
          · have hq := hlt (by omega)
            unfold yrF
            split
            · exact dg_le hz (by omega) 4
            · show p + 1 ≤ n; omega
          · split
            · exact cd_le hz (hlt (by omega))
            · split
              · exact cd_le hz (hlt (by omega))
              · exact hp
/-- what holds of a part that was read at p -/
def NPg (p : Int) (r : NP) : Prop := PVal r.kd r.v r.g r.c ∧ (r.kd = 4 → r.v ≤ 26) ∧ r.pos = p + pwL r.kd r.v r.g r.c
theorem nd_of {v : Int} {k : Nat} (hk : 1 ≤ k ∧ k ≤ 6) (h1 : tnF (k - 1) ≤ v ∨ (k = 1 ∧ 0 ≤ v)) (h2 : v < tnF k) : ndF v 1 = k := by
  have t := tnF_v
  unfold ndF
  have : k = 1 ∨ k = 2 ∨ k = 3 ∨ k = 4 ∨ k = 5 ∨ k = 6 := by omega
  rcases this with rfl | rfl | rfl | rfl | rfl | rfl
  · (repeat' split) <;> omega
  · rw [show 2 - 1 = 1 from rfl] at h1
    (repeat' split) <;> omega
  · rw [show 3 - 1 = 2 from rfl] at h1
    (repeat' split) <;> omega
  · rw [show 4 - 1 = 3 from rfl] at h1
    (repeat' split) <;> omega
  · rw [show 5 - 1 = 4 from rfl] at h1
    (repeat' split) <;> omega
  · rw [show 6 - 1 = 5 from rfl] at h1
    (repeat' split) <;> omega
theorem dg_lo {h : Int → Int} {p : Int} (hd : isD (h p)) (h48 : h p ≠ 48) : ∀ m : Nat, tnF ((dgF h p (m + 1)).2.toNat - 1) ≤ (dgF h p (m + 1)).1
  | 0 => by
    rw [dg_s, if_pos ⟨rfl, by rw [show p + ((0 : Nat) : Int) = p by omega]; exact hd⟩, show p + ((0 : Nat) : Int) = p by omega]
    show tnF ((((0 : Nat) : Int) + 1).toNat - 1) ≤ 10 * 0 + h p - 48
    rw [show (((0 : Nat) : Int) + 1).toNat - 1 = 0 by omega]
    show (1 : Int) ≤ _
    omega
  | m + 1 => by
    have ih := dg_lo hd h48 m
    rw [dg_s]
    split
    · rename_i hc
      show tnF ((((m + 1 : Nat) : Int) + 1).toNat - 1) ≤ 10 * (dgF h p (m + 1)).1 + h (p + ((m + 1 : Nat) : Int)) - 48
      rw [show (((m + 1 : Nat) : Int) + 1).toNat - 1 = m + 1 by omega]
      rw [hc.1, show (((m + 1 : Nat) : Int)).toNat - 1 = m by omega] at ih
      show tnF m * 10 ≤ _
      have := hc.2
      omega
    · exact ih
theorem dg_nd {h : Int → Int} {p : Int} (hd : isD (h p)) (h48 : h p ≠ 48) {m : Nat} (hm : m + 1 ≤ 6) : (ndF (dgF h p (m + 1)).1 1 : Int) = (dgF h p (m + 1)).2 := by
  have h1 := dgF_r h p (m + 1)
  have h2 := dg_lo hd h48 m
  have h3 := dg_1 hd m
  have := nd_of (v := (dgF h p (m + 1)).1) (k := (dgF h p (m + 1)).2.toNat) (by omega) (Or.inl h2) h1.2.2
  omega
theorem lt_nd {h : Int → Int} {p : Int} (hl : isL (h p)) : (ltF h p 3).2 = letN (ltF h p 3).1 := by
  have e1 : ltF h p 1 = (h p - 64, 1) := by
    rw [ltF_st, if_pos ⟨rfl, by rw [show p + ((0 : Nat) : Int) = p by omega]; exact hl⟩, show p + ((0 : Nat) : Int) = p by omega]
    show (27 * 0 + h p - 65 + 1, ((0 : Nat) : Int) + 1) = (h p - 64, 1)
    rw [show 27 * 0 + h p - 65 + 1 = h p - 64 by omega]
    rfl
  have e2 := ltF_st h p 1
  have e3 := ltF_st h p 2
  rw [e1] at e2
  by_cases h2 : isL (h (p + ((1 : Nat) : Int)))
  · rw [if_pos ⟨rfl, h2⟩] at e2
    rw [e2] at e3
    by_cases h3 : isL (h (p + ((2 : Nat) : Int)))
    · rw [if_pos ⟨rfl, h3⟩] at e3
      rw [e3]
      show ((2 : Nat) : Int) + 1 = letN (27 * (27 * (h p - 64) + h (p + ((1 : Nat) : Int)) - 65 + 1) + h (p + ((2 : Nat) : Int)) - 65 + 1)
      unfold letN
      rw [if_neg (by omega), if_neg (by omega)]
      rfl
    · rw [if_neg (fun z => h3 z.2)] at e3
      rw [e3]
      show ((1 : Nat) : Int) + 1 = letN (27 * (h p - 64) + h (p + ((1 : Nat) : Int)) - 65 + 1)
      unfold letN
      rw [if_neg (by omega), if_pos (by omega)]
      rfl
  · rw [if_neg (fun z => h2 z.2)] at e2
    rw [e2] at e3
    rw [if_neg (fun z => by have := z.1; show False; have : (1 : Int) = ((2 : Nat) : Int) := z.1; omega)] at e3
    rw [e3]
    show (1 : Int) = letN (h p - 64)
    unfold letN
    rw [if_pos (by omega)]
theorem ten6 (c : Int) (hc : 1 ≤ c ∧ c ≤ 6) {g : Int} (hg : 0 ≤ g ∧ g < tnF c.toNat) : g * 10 ^ (6 - c).toNat < 1000000 := by
  have t := tnF_v
  have : c = 1 ∨ c = 2 ∨ c = 3 ∨ c = 4 ∨ c = 5 ∨ c = 6 := by omega
  rcases this with rfl | rfl | rfl | rfl | rfl | rfl
  · rw [show ((6 : Int) - 1).toNat = 5 by decide, show (10 : Int) ^ 5 = 100000 by decide]
    rw [show (1 : Int).toNat = 1 by decide] at hg
    omega
  · rw [show ((6 : Int) - 2).toNat = 4 by decide, show (10 : Int) ^ 4 = 10000 by decide]
    rw [show (2 : Int).toNat = 2 by decide] at hg
    omega
  · rw [show ((6 : Int) - 3).toNat = 3 by decide, show (10 : Int) ^ 3 = 1000 by decide]
    rw [show (3 : Int).toNat = 3 by decide] at hg
    omega
  · rw [show ((6 : Int) - 4).toNat = 2 by decide, show (10 : Int) ^ 2 = 100 by decide]
    rw [show (4 : Int).toNat = 4 by decide] at hg
    omega
  · rw [show ((6 : Int) - 5).toNat = 1 by decide, show (10 : Int) ^ 1 = 10 by decide]
    rw [show (5 : Int).toNat = 5 by decide] at hg
    omega
  · rw [show ((6 : Int) - 6).toNat = 0 by decide, show (10 : Int) ^ 0 = 1 by decide]
    rw [show (6 : Int).toNat = 6 by decide] at hg
    omega
theorem z6 : (0 : Int) * 10 ^ (6 - (0 : Int)).toNat < 1000000 := by rw [Int.zero_mul]; omega
theorem NPg_n {p kd v : Int} {k : Int} (hk : (kd = 3 ∨ kd = 5 ∨ kd = 6) ∧ 0 ≤ v ∧ v < 10000) (hn : (ndF v 1 : Int) = k) : NPg p (1, p + 1 + k, kd, v, 0, 0) := by
  refine ⟨⟨by show 0 ≤ kd ∧ kd ≤ 6; omega, by show 0 ≤ v ∧ v ≤ 19682; omega, by show (0 : Int) ≤ 0 ∧ (0 : Int) ≤ 6; omega, ⟨by show (0 : Int) ≤ 0; omega, z6⟩, fun z => by have z : kd = 2 ∨ kd = 4 := z; omega⟩, fun z => by have z : kd = 4 := z; omega, ?_⟩
  show p + 1 + k = p + pwL kd v 0 0
  unfold pwL
  rw [if_neg (by omega), if_neg (by omega), if_neg (by omega), if_neg (by omega)]
  omega
theorem cd_g {h : Int → Int} {p kd : Int} (hk : kd = 5 ∨ kd = 6) (ho : (cdF h p kd).ok = 1) : NPg p (cdF h p kd) ∧ (cdF h p kd).kd = kd := by
  unfold cdF at ho ⊢
  split at ho
  · rename_i hd
    rw [if_pos hd]
    have h4 := dg_4 (h := h) (p := p + 1) (m := 3) (by omega)
    have h0 := (dgF_r h (p + 1) 3).2.1
    have := NPg_n (p := p) (kd := kd) (v := (dgF h (p + 1) 3).1) (k := (dgF h (p + 1) 3).2) ⟨by omega, h0, h4⟩ (dg_nd hd.1 hd.2 (by omega))
    refine ⟨?_, rfl⟩
    rw [show bi (0 < (dgF h (p + 1) 3).2) = 1 from ho]
    exact this
  · have ho : (0 : Int) = 1 := ho
    omega
theorem fr_g {h : Int → Int} {p p0 kd v : Int} {m : Nat} (hm : m ≤ 6) (hk : (kd = 2 ∧ v = 0 ∧ p = p0 + 1) ∨ (kd = 4 ∧ 1 ≤ v ∧ v ≤ 26 ∧ p = p0 + 2)) (ho : (frF h p kd v m).ok = 1) : NPg p0 (frF h p kd v m) ∧ (frF h p kd v m).kd = kd := by
  have h1 := dgF_r h p m
  have hc : 0 < (dgF h p m).2 ∧ (dgF h p m).1 % 10 ≠ 0 := by
    by_cases hq : 0 < (dgF h p m).2 ∧ (dgF h p m).1 % 10 ≠ 0
    · exact hq
    · have ho : bi (0 < (dgF h p m).2 ∧ (dgF h p m).1 % 10 ≠ 0) = 1 := ho
      rw [bi_f hq] at ho
      omega
  have hpv : PVal kd v (dgF h p m).1 (dgF h p m).2 := ⟨by omega, by omega, by omega, ⟨h1.2.1, ten6 _ (by omega) ⟨h1.2.1, h1.2.2⟩⟩, fun _ => by omega⟩
  have hnd := nd_pl hpv (by omega)
  refine ⟨⟨hpv, fun z => by show v ≤ 26; have z : kd = 4 := z; omega, ?_⟩, rfl⟩
  show p + (dgF h p m).2 = p0 + pwL kd v (dgF h p m).1 (dgF h p m).2
  unfold pwL
  rcases hk with ⟨rfl, -, e⟩ | ⟨rfl, -, -, e⟩
  · rw [if_neg (by omega), if_neg (by omega), if_pos rfl]; omega
  · rw [if_neg (by omega), if_neg (by omega), if_neg (by omega), if_pos rfl]; omega
/-- of a part that was read: it is a good one; which kinds may come behind b -/
theorem np_g {h : Int → Int} {p b bl : Int} (ho : (npF h p b bl).ok = 1) : NPg p (npF h p b bl) ∧ (b = 5 → (npF h p b bl).kd = 6) ∧ ((b = 0 ∧ isD (h p) ∧ bl = 0) → (npF h p b bl).kd = 1) ∧ ((b = 1 ∧ h p = 46 ∧ bl = 0) → (npF h p b bl).kd = 2) ∧ ((bl ≠ 0 ∧ b = 0) → (npF h p b bl).kd ≠ 1) ∧ ((bl ≠ 0 ∧ b = 1) → (npF h p b bl).kd ≠ 2) := by
  have key : ∀ (r : NP) (kd : Int), npF h p b bl = r → NPg p r ∧ r.kd = kd → (b = 5 → kd = 6) → ((b = 0 ∧ isD (h p) ∧ bl = 0) → kd = 1) → ((b = 1 ∧ h p = 46 ∧ bl = 0) → kd = 2) → ((bl ≠ 0 ∧ b = 0) → kd ≠ 1) → ((bl ≠ 0 ∧ b = 1) → kd ≠ 2) → NPg p (npF h p b bl) ∧ (b = 5 → (npF h p b bl).kd = 6) ∧ ((b = 0 ∧ isD (h p) ∧ bl = 0) → (npF h p b bl).kd = 1) ∧ ((b = 1 ∧ h p = 46 ∧ bl = 0) → (npF h p b bl).kd = 2) ∧ ((bl ≠ 0 ∧ b = 0) → (npF h p b bl).kd ≠ 1) ∧ ((bl ≠ 0 ∧ b = 1) → (npF h p b bl).kd ≠ 2) := by
    intro r kd e hr k1 k2 k3 k4 k5
    rw [e, hr.2]
    exact ⟨hr.1, k1, k2, k3, k4, k5⟩
  have bad : ∀ x : Int, npF h p b bl = (0, x, 0, 0, 0, 0) → False := fun x e => by
    rw [e] at ho
    have ho : (0 : Int) = 1 := ho
    omega
  by_cases hb5 : b = 5
  · by_cases h99 : h p = 99
    · have e : npF h p b bl = cdF h p 6 := by unfold npF; rw [if_pos hb5, if_pos h99]
      exact key _ 6 e (cd_g (Or.inr rfl) (by rw [← e]; exact ho)) (fun _ => rfl) (by omega) (by omega) (by omega) (by omega)
    · exact (bad p (by unfold npF; rw [if_pos hb5, if_neg h99])).elim
  · by_cases hL : isL (h p)
    · have e : npF h p b bl = ltR h p := by unfold npF; rw [if_neg hb5, if_pos hL]
      have hlr := ltF_r h p 3 (Nat.le_refl _)
      refine key _ 0 e ⟨⟨⟨by show (0 : Int) ≤ 0 ∧ (0 : Int) ≤ 6; omega, ⟨hlr.2.1, hlr.2.2.1⟩, by show (0 : Int) ≤ 0 ∧ (0 : Int) ≤ 6; omega, ⟨by show (0 : Int) ≤ 0; omega, z6⟩, fun z => by have z : (0 : Int) = 2 ∨ (0 : Int) = 4 := z; omega⟩, fun z => by have z : (0 : Int) = 4 := z; omega, ?_⟩, rfl⟩ (by omega) (by omega) (by omega) (by omega) (by omega)
      show p + (ltF h p 3).2 = p + pwL 0 (ltF h p 3).1 0 0
      unfold pwL
      rw [if_pos rfl, lt_nd hL]
    · by_cases hD : isD (h p)
      · by_cases hbb : bl ≠ 0 ∧ b = 0
        · exact (bad p (by unfold npF; rw [if_neg hb5, if_neg hL, if_pos hD, if_pos hbb])).elim
        · have e : npF h p b bl = whF h p := by unfold npF; rw [if_neg hb5, if_neg hL, if_pos hD, if_neg hbb]
          have hwg : NPg p (whF h p) ∧ (whF h p).kd = 1 := by
            have hg : ∀ (m : Nat), (dgF h p m).1 < 10000 → (ndF (dgF h p m).1 1 : Int) = (dgF h p m).2 → NPg p (bi (0 < (dgF h p m).2), p + (dgF h p m).2, 1, (dgF h p m).1, 0, 0) := by
              intro m q1 q2
              have h0 := (dgF_r h p m).2.1
              refine ⟨⟨by show (0 : Int) ≤ 1 ∧ (1 : Int) ≤ 6; omega, ⟨h0, by show (dgF h p m).1 ≤ 19682; omega⟩, by show (0 : Int) ≤ 0 ∧ (0 : Int) ≤ 6; omega, ⟨by show (0 : Int) ≤ 0; omega, z6⟩, fun z => by have z : (1 : Int) = 2 ∨ (1 : Int) = 4 := z; omega⟩, fun z => by have z : (1 : Int) = 4 := z; omega, ?_⟩
              show p + (dgF h p m).2 = p + pwL 1 (dgF h p m).1 0 0
              unfold pwL
              rw [if_neg (by omega), if_pos rfl, q2]
            refine ⟨?_, rfl⟩
            unfold whF
            by_cases h48 : h p = 48
            · rw [if_pos h48]
              have e1 : dgF h p 1 = (0, 1) := by
                rw [dg_s, if_pos ⟨rfl, by rw [show p + ((0 : Nat) : Int) = p by omega]; exact hD⟩, show p + ((0 : Nat) : Int) = p by omega, h48]
                rfl
              exact hg 1 (by rw [e1]; show (0 : Int) < 10000; omega) (by rw [e1]; rfl)
            · rw [if_neg h48]
              exact hg 4 (dg_4 (by omega)) (dg_nd hD h48 (by omega))
          exact key _ 1 e hwg (by omega) (fun _ => rfl) (by omega) (by omega) (by omega)
      · by_cases h46 : h p = 46
        · have e : npF h p b bl = poF h p (if bl ≠ 0 ∧ b = 1 then 0 else 1) (if bl ≠ 0 ∨ b = -1 then 1 else 0) := by unfold npF; rw [if_neg hb5, if_neg hL, if_neg hD, if_pos h46]
          by_cases hc1 : isD (h (p + 1)) ∧ (if bl ≠ 0 ∧ b = 1 then (0 : Int) else 1) ≠ 0
          · have e2 : npF h p b bl = frF h (p + 1) 2 0 6 := by rw [e]; unfold poF; rw [if_pos hc1]
            have hnb : ¬ (bl ≠ 0 ∧ b = 1) := fun z => by have := hc1.2; rw [if_pos z] at this; exact this rfl
            exact key _ 2 e2 (fr_g (by omega) (Or.inl ⟨rfl, rfl, rfl⟩) (by rw [← e2]; exact ho)) (by omega) (by omega) (fun _ => rfl) (by omega) (fun z => absurd z hnb)
          · by_cases hc2 : isL (h (p + 1)) ∧ (if bl ≠ 0 ∨ b = -1 then (1 : Int) else 0) ≠ 0
            · have e2 : npF h p b bl = frF h (p + 2) 4 (h (p + 1) - 64) 5 := by rw [e]; unfold poF; rw [if_neg hc1, if_pos hc2]
              have hnb : bl ≠ 0 ∨ b = -1 := by
                by_cases hq : bl ≠ 0 ∨ b = -1
                · exact hq
                · have := hc2.2; rw [if_neg hq] at this; exact absurd rfl this
              exact key _ 4 e2 (fr_g (by omega) (Or.inr ⟨rfl, by omega, by omega, rfl⟩) (by rw [← e2]; exact ho)) (by omega) (by omega) (by omega) (by omega) (by omega)
            · exact (bad (p + 1) (by rw [e]; unfold poF; rw [if_neg hc1, if_neg hc2])).elim
        · by_cases h121 : h p = 121
          · have e : npF h p b bl = yrF h p := by unfold npF; rw [if_neg hb5, if_neg hL, if_neg hD, if_neg h46, if_pos h121]
            have hyg : NPg p (yrF h p) ∧ (yrF h p).kd = 3 := by
              rw [e] at ho
              unfold yrF at ho ⊢
              split at ho
              · rename_i hd
                rw [if_pos hd]
                have h4 := dg_4 (h := h) (p := p + 1) (m := 4) (by omega)
                have h0 := (dgF_r h (p + 1) 4).2.1
                have := NPg_n (p := p) (kd := 3) (v := (dgF h (p + 1) 4).1) (k := (dgF h (p + 1) 4).2) ⟨by omega, h0, h4⟩ (dg_nd (by omega) (by omega) (by omega))
                refine ⟨?_, rfl⟩
                rw [show bi ((dgF h (p + 1) 4).2 = 4) = 1 from ho]
                exact this
              · have ho : (0 : Int) = 1 := ho
                omega
            exact key _ 3 e hyg (by omega) (by omega) (by omega) (by omega) (by omega)
          · by_cases h118 : h p = 118
            · have e : npF h p b bl = cdF h p 5 := by unfold npF; rw [if_neg hb5, if_neg hL, if_neg hD, if_neg h46, if_neg h121, if_pos h118]
              exact key _ 5 e (cd_g (Or.inl rfl) (by rw [← e]; exact ho)) (by omega) (by omega) (by omega) (by omega) (by omega)
            · by_cases h99 : h p = 99
              · have e : npF h p b bl = cdF h p 6 := by unfold npF; rw [if_neg hb5, if_neg hL, if_neg hD, if_neg h46, if_neg h121, if_neg h118, if_pos h99]
                exact key _ 6 e (cd_g (Or.inr rfl) (by rw [← e]; exact ho)) (by omega) (by omega) (by omega) (by omega) (by omega)
              · exact (bad p (by unfold npF; rw [if_neg hb5, if_neg hL, if_neg hD, if_neg h46, if_neg h121, if_neg h118, if_neg h99])).elim

