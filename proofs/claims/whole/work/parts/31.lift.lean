/-! ===== a plan carried out, as a function ===== -/
theorem gN_mono (a : Int → Int) (f : Int) (u : Nat) : ∀ x : Nat, gN a f u ≤ gN a f (u + x)
  | 0 => Int.le_refl _
  | x + 1 => by
    have ih := gN_mono a f u x
    rw [show u + (x + 1) = (u + x) + 1 from rfl]
    simp only [gN]
    split <;> omega
theorem gN_inj {a : Int → Int} {f : Int} {u v : Nat} (hu : 0 ≤ gW a f u) (hv : 0 ≤ gW a f v) (h : gN a f u = gN a f v) : u = v := by
  have key : ∀ x y : Nat, 0 ≤ gW a f x → x < y → gN a f x < gN a f y := by
    intro x y hx hxy
    have h1 := gN_mono a f (x + 1) (y - (x + 1))
    rw [show x + 1 + (y - (x + 1)) = y by omega] at h1
    have h2 : gN a f (x + 1) = gN a f x + 1 := by
      simp only [gN]
      rw [if_neg (by omega)]
    omega
  by_cases q : u < v
  · have := key u v hu q; omega
  · by_cases r : v < u
    · have := key v u hv r; omega
    · omega
def foF (t : Int) : Int := if 1000 ≤ t then 6 else 4
theorem foF_r (t : Int) : foF t = 4 ∨ foF t = 6 := by unfold foF; split <;> simp
def lvA (a I : Int → Int) : Nat → Int → Int
  | 0 => a
  | k + 1 => lvF (lvA a I k) (I (k : Int) % 1000) (foF (I (k : Int)))
def inC (A I : Int → Int) (s b : Int) : Nat → Int → Int
  | 0 => A
  | c + 1 => cmF (inC A I s b c) (I (b + (c : Int)) % 1000) (foF (I (b + (c : Int)))) s (c : Int)
def pbF (pl : Int → Int) (k : Nat) : Int := if k = 0 then 0 else pl ((k : Int) - 1)
def lfC (A I pl : Int → Int) (f : Int) : Nat → Int → Int
  | 0 => A
  | k + 1 => inC (lfC A I pl f k) I (f + (k : Int)) (pbF pl k) (pl (k : Int) - pbF pl k).toNat
def lfF (a : Int → Int) (f l : Int) (pl : Int → Int) : Int → Int := lfC (lvA a (shI a f l) (shN a f l)) (shI a f l) pl f (l - f + 1).toNat
def cnS (S : Int → Int) : Nat → Int
  | 0 => 0
  | t + 1 => if S (t : Int) < 0 then cnS S t else cnS S t + 1
theorem cnS_gN {a S : Int → Int} {f : Int} : ∀ t : Nat, (∀ u, u < t → gW a f u = S (u : Int)) → gN a f t = cnS S t
  | 0, _ => rfl
  | t + 1, h => by
    simp only [gN, cnS]
    rw [h t (by omega), cnS_gN t (fun u q => h u (by omega))]
/-- what is held of a plan at hand -/
def PlanOK (a : Int → Int) (f l : Int) (pl S : Int → Int) : Prop := (0 ≤ f ∧ f ≤ l ∧ l < a 2) ∧ (∀ k : Nat, (k : Int) ≤ l - f → pbF pl k ≤ pl (k : Int) ∧ pl (k : Int) ≤ pbF pl k + 30) ∧ pl (l - f) = cnS S (shT f l) ∧ ∀ s, f ≤ s → s ≤ l → a (6670 + 32 * s + 1) ≠ 1
/-- what is kept on the way -/
def KP (a A : Int → Int) : Prop := Inv A ∧ (∀ k, k < 6670 ∨ 8782 ≤ k → A k = a k) ∧ (∀ s w, 0 ≤ s → s < 16 → (w = 0 ∨ w = 1) → A (6670 + 32 * s + w) = a (6670 + 32 * s + w)) ∧ ∀ b w, 0 ≤ b → b < a 3 → 0 ≤ w → w < 4 → bkF A b w = bkF a b w
theorem KP_lv {a A : Int → Int} (h : KP a A) {b f : Int} (h0 : 0 ≤ b) (h1 : b < a 3) (hf : f = 4 ∨ f = 6) : KP a (lvF A b f) := by
  obtain ⟨hI, ho, hw, hb⟩ := h
  have e3 := ho 3 (by omega)
  have hn := hI.n
  have hp := hI.pos h0 (by omega) hf
  have hb2 : 0 ≤ b ∧ b < 200 := by omega
  refine ⟨inv_lv hI h0 (by omega) hf, fun k q => ?_, fun s w q0 q1 q2 => ?_, fun b' w q0 q1 q2 q3 => ?_⟩
  · rw [lvF_o hb2 hf hp (by omega)]; exact ho k q
  · rw [lvF_s hb2 hf hp ⟨q0, q1⟩ q2]; exact hw s w q0 q1 q2
  · rw [lvF_b hb2 hf hp q0 (by omega), if_neg (by omega)]; exact hb b' w q0 q1 q2 q3
theorem KP_cm {a A : Int → Int} (h : KP a A) {b f s p : Int} (h0 : 0 ≤ b) (h1 : b < a 3) (hf : f = 4 ∨ f = 6) (hs : 0 ≤ s ∧ s < a 2) (hq : 0 ≤ p ∧ p < 30) (hfr : thgF A s p = -1) (hz : a (6670 + 32 * s + 1) = 0) (hh4 : f = 4 → bkF a b 0 ≠ 1) (hh6 : f = 6 → bkF a b 0 = 1) : KP a (cmF A b f s p) ∧ ∀ s' p', 0 ≤ s' → s' < 16 → 0 ≤ p' → p' < 30 → (s' ≠ s ∨ p' ≠ p) → thgF A s' p' = -1 → thgF (cmF A b f s p) s' p' = -1 := by
  obtain ⟨hI, ho, hw, hb⟩ := h
  have e3 := ho 3 (by omega)
  have e2 := ho 2 (by omega)
  have hn := hI.n
  have hp := hI.pos h0 (by omega) hf
  have hb2 : 0 ≤ b ∧ b < 200 := by omega
  have hs2 : 0 ≤ s ∧ s < 16 := by omega
  have ew := hw s 1 hs2.1 hs2.2 (Or.inr rfl)
  have e0 := hb b 0 h0 h1 (by omega) (by omega)
  have hfr2 : thgF (lvF A b f) s p = -1 := by
    rw [lvF_t hb2 hf hp hs2 hq]
    split
    · rfl
    · exact hfr
  refine ⟨⟨inv_cm hI h0 (by omega) hf (by omega) hq hfr2 (fun q => ?_) (fun q => ?_), fun k q => ?_, fun s w q0 q1 q2 => ?_, fun b' w q0 q1 q2 q3 => ?_⟩, fun s' p' q0 q1 q2 q3 q4 q5 => ?_⟩
  · rw [ew, e0, hz]
    have := hh4 q
    constructor
    · intro z; omega
    · intro z; exact absurd z this
  · rw [ew, e0]; exact ⟨hz, hh6 q⟩
  · rw [cmF_pt, ptF_o hb2 hf hs2 hq (by omega), lvF_o hb2 hf hp (by omega)]; exact ho k q
  · rw [cmF_pt, ptF_s hb2 hf hs2 hq ⟨q0, q1⟩ q2, lvF_s hb2 hf hp ⟨q0, q1⟩ q2]; exact hw s w q0 q1 q2
  · rw [cmF_pt, ptF_b hb2 hf hs2 hq q0 (by omega), if_neg (by omega), if_neg (by omega), lvF_b hb2 hf hp q0 (by omega), if_neg (by omega)]; exact hb b' w q0 q1 q2 q3
  · rw [cmF_pt, ptF_t hb2 hf hs2 hq ⟨q0, q1⟩ ⟨q2, q3⟩, if_neg (by omega), lvF_t hb2 hf hp ⟨q0, q1⟩ ⟨q2, q3⟩]
    split
    · rfl
    · exact q5
/-- what is held of a thing gathered off shelves that aren't high -/
theorem sh_thing {a : Int → Int} (hI : Inv a) {f l : Int} (h0 : 0 ≤ f) (hl : l < a 2) (hz : ∀ s, f ≤ s → s ≤ l → a (6670 + 32 * s + 1) ≠ 1) {x : Int} (hx0 : 0 ≤ x) (hx1 : x < (shN a f l : Int)) : ∃ u, u < shT f l ∧ gN a f u = x ∧ shI a f l x = gW a f u ∧ 0 ≤ gW a f u ∧ (0 ≤ gW a f u % 1000 ∧ gW a f u % 1000 < a 3) ∧ (foF (gW a f u) = 4 → bkF a (gW a f u % 1000) 0 ≠ 1) ∧ (foF (gW a f u) = 6 → bkF a (gW a f u % 1000) 0 = 1) ∧ gW a f u = (if foF (gW a f u) = 4 then gW a f u % 1000 else 1000 + gW a f u % 1000) := by
  have hn := hI.n
  have hsn := shN_r (a := a) (f := f) (l := l) h0 (by omega)
  obtain ⟨u, r1, r2, r3, r4⟩ := gA_at a f (shT f l) x hx0 (by omega)
  have hu : u < 30 * (l + 1 - f).toNat := r1
  have hs := hI.s.2.2 (f + ((u / 30 : Nat) : Int)) ((u % 30 : Nat) : Int) (by omega) (by omega) (by omega) (by omega)
  have hzu := hz (f + ((u / 30 : Nat) : Int)) (by omega) (by omega)
  refine ⟨u, r1, r3, r4 _ _, r2, ?_⟩
  change gW a f u = -1 ∨ (0 ≤ gW a f u ∧ gW a f u < a 3 ∧ bkF a (gW a f u) 4 = _ ∧ bkF a (gW a f u) 5 = _) ∨ (1000 ≤ gW a f u ∧ gW a f u < 1000 + a 3 ∧ bkF a (gW a f u - 1000) 6 = _ ∧ bkF a (gW a f u - 1000) 7 = _) at hs
  generalize gW a f u = t at *
  rcases hs with q | ⟨q1, q2, q3, q4⟩ | ⟨q1, q2, q3, q4⟩
  · omega
  · have em : t % 1000 = t := by omega
    have hb := hI.b.2 t q1 q2
    unfold InvB1 at hb
    have ef : foF t = 4 := by unfold foF; rw [if_neg (by omega)]
    rw [em, ef, if_pos rfl]
    refine ⟨⟨q1, q2⟩, fun _ => ?_, fun z => by omega, rfl⟩
    rcases hb.2.2.2.1 with z | z
    · omega
    · have := z.2.2.2
      rw [q3] at this
      intro y
      exact hzu (this.2 y)
  · have em : t % 1000 = t - 1000 := by omega
    have hb := hI.b.2 (t - 1000) (by omega) (by omega)
    unfold InvB1 at hb
    have ef : foF t = 6 := by unfold foF; rw [if_pos (by omega)]
    rw [em, ef, if_neg (by omega)]
    refine ⟨⟨by omega, by omega⟩, fun z => by omega, fun _ => ?_, by omega⟩
    rcases hb.2.2.2.2 with z | z
    · omega
    · exact z.2.2.2.2
theorem lvA_ok {a : Int → Int} (hI : Inv a) {f l : Int} (h0 : 0 ≤ f) (hl : l < a 2) (hz : ∀ s, f ≤ s → s ≤ l → a (6670 + 32 * s + 1) ≠ 1) : ∀ k : Nat, k ≤ shN a f l → KP a (lvA a (shI a f l) k) ∧ ∀ u, u < shT f l → thgF (lvA a (shI a f l) k) (f + ((u / 30 : Nat) : Int)) ((u % 30 : Nat) : Int) = if 0 ≤ gW a f u ∧ (k : Int) ≤ gN a f u then gW a f u else -1
  | 0, _ => by
    have hn := hI.n
    refine ⟨⟨hI, fun _ _ => rfl, fun _ _ _ _ _ => rfl, fun _ _ _ _ _ _ => rfl⟩, fun u hu => ?_⟩
    have hu' : u < 30 * (l + 1 - f).toNat := hu
    have hr := gN_r a f u
    show gW a f u = _
    split
    · rfl
    · have := hI.th (s := f + ((u / 30 : Nat) : Int)) (p := ((u % 30 : Nat) : Int)) (by omega) (by omega) (by omega) (by omega)
      change TH a (gW a f u) at this
      rcases this with q | q | q <;> omega
  | k + 1, hk => by
    have hn := hI.n
    obtain ⟨hK, hC⟩ := lvA_ok hI h0 hl hz k (by omega)
    obtain ⟨u0, p1, p2, p3, p4, p5, p6, p7, p8⟩ := sh_thing hI h0 hl hz (x := (k : Int)) (by omega) (by omega)
    have hf := foF_r (gW a f u0)
    refine ⟨?_, fun u hu => ?_⟩
    · show KP a (lvF (lvA a (shI a f l) k) (shI a f l (k : Int) % 1000) (foF (shI a f l (k : Int))))
      rw [p3]
      exact KP_lv hK p5.1 p5.2 hf
    · show thgF (lvF (lvA a (shI a f l) k) (shI a f l (k : Int) % 1000) (foF (shI a f l (k : Int)))) _ _ = _
      rw [p3]
      have hu' : u < 30 * (l + 1 - f).toNat := hu
      have hu0' : u0 < 30 * (l + 1 - f).toNat := p1
      obtain ⟨hIA, ho, hw, hb⟩ := hK
      have e3 := ho 3 (by omega)
      have e2 := ho 2 (by omega)
      have hp := hIA.pos p5.1 (by omega) hf
      have hcu := hC u hu
      have hc0 := hC u0 p1
      rw [if_pos ⟨p4, by omega⟩] at hc0
      have hpos := hIA.s.2.2 (f + ((u0 / 30 : Nat) : Int)) ((u0 % 30 : Nat) : Int) (by omega) (by omega) (by omega) (by omega)
      rw [hc0] at hpos
      have hat : bkF (lvA a (shI a f l) k) (gW a f u0 % 1000) (foF (gW a f u0)) = f + ((u0 / 30 : Nat) : Int) ∧ bkF (lvA a (shI a f l) k) (gW a f u0 % 1000) (foF (gW a f u0) + 1) = ((u0 % 30 : Nat) : Int) := by
        generalize gW a f u0 = t at *
        rcases hpos with q | ⟨q1, q2, q3, q4⟩ | ⟨q1, q2, q3, q4⟩
        · omega
        · have em : t % 1000 = t := by omega
          have ef : foF t = 4 := by unfold foF; rw [if_neg (by omega)]
          rw [em, ef]; exact ⟨q3, q4⟩
        · have em : t % 1000 = t - 1000 := by omega
          have ef : foF t = 6 := by unfold foF; rw [if_pos (by omega)]
          rw [em, ef]; exact ⟨q3, q4⟩
      rw [lvF_t ⟨p5.1, by omega⟩ hf hp (by omega) (by omega), hat.1, hat.2, hcu]
      by_cases q : u = u0
      · subst q
        rw [if_pos ⟨rfl, rfl⟩, if_neg (by omega)]
      · rw [if_neg (by omega)]
        by_cases r : 0 ≤ gW a f u ∧ gN a f u = (k : Int)
        · exact absurd (gN_inj r.1 p4 (by omega)) q
        · by_cases r2 : 0 ≤ gW a f u ∧ (k : Int) ≤ gN a f u
          · rw [if_pos r2, if_pos (by omega)]
          · rw [if_neg r2, if_neg (by omega)]
/-- all places of the floor are free when all has left -/
theorem lvA_free {a : Int → Int} (hI : Inv a) {f l : Int} (h0 : 0 ≤ f) (hl : l < a 2) (hz : ∀ s, f ≤ s → s ≤ l → a (6670 + 32 * s + 1) ≠ 1) {s p : Int} (hs : f ≤ s ∧ s ≤ l) (hp : 0 ≤ p ∧ p < 30) : thgF (lvA a (shI a f l) (shN a f l)) s p = -1 := by
  have hn := hI.n
  have hsn := shN_r (a := a) (f := f) (l := l) h0 (by omega)
  have hut : (30 * (s - f) + p).toNat < shT f l := by unfold shT; omega
  have h := (lvA_ok hI h0 hl hz (shN a f l) (Nat.le_refl _)).2 (30 * (s - f) + p).toNat hut
  have hg : 0 ≤ gW a f (30 * (s - f) + p).toNat → gN a f (30 * (s - f) + p).toNat < gN a f (shT f l) := by
    intro q
    have h1 := gN_mono a f ((30 * (s - f) + p).toNat + 1) (shT f l - ((30 * (s - f) + p).toNat + 1))
    rw [show (30 * (s - f) + p).toNat + 1 + (shT f l - ((30 * (s - f) + p).toNat + 1)) = shT f l by omega] at h1
    have h2 : gN a f ((30 * (s - f) + p).toNat + 1) = gN a f (30 * (s - f) + p).toNat + 1 := by
      simp only [gN]
      rw [if_neg (by omega)]
    omega
  rw [if_neg (by omega), show f + (((30 * (s - f) + p).toNat / 30 : Nat) : Int) = s by omega, show (((30 * (s - f) + p).toNat % 30 : Nat) : Int) = p by omega] at h
  exact h
theorem inC_ok {a A : Int → Int} (hI : Inv a) {f l : Int} (h0 : 0 ≤ f) (hl : l < a 2) (hz : ∀ s, f ≤ s → s ≤ l → a (6670 + 32 * s + 1) ≠ 1) (hA : KP a A) {s b : Int} (hs : f ≤ s ∧ s ≤ l) (hb : 0 ≤ b) (hfr : ∀ s' p, s ≤ s' → s' ≤ l → 0 ≤ p → p < 30 → thgF A s' p = -1) : ∀ c : Nat, c ≤ 30 → b + (c : Int) ≤ (shN a f l : Int) → KP a (inC A (shI a f l) s b c) ∧ ∀ s' p, s ≤ s' → s' ≤ l → 0 ≤ p → p < 30 → (s < s' ∨ (c : Int) ≤ p) → thgF (inC A (shI a f l) s b c) s' p = -1
  | 0, _, _ => ⟨hA, fun s' p q0 q1 q2 q3 _ => hfr s' p q0 q1 q2 q3⟩
  | c + 1, hc, hn1 => by
    have hn := hI.n
    obtain ⟨hK, hC⟩ := inC_ok hI h0 hl hz hA hs hb hfr c (by omega) (by omega)
    obtain ⟨u0, p1, p2, p3, p4, p5, p6, p7, p8⟩ := sh_thing hI h0 hl hz (x := b + (c : Int)) (by omega) (by omega)
    have hhs := (hI.s.2.1 s (by omega) (by omega)).2
    have hzs := hz s hs.1 hs.2
    have hcm := KP_cm hK (b := gW a f u0 % 1000) (f := foF (gW a f u0)) (s := s) (p := (c : Int)) p5.1 p5.2 (foF_r _) (by omega) (by omega) (hC s (c : Int) (by omega) (by omega) (by omega) (by omega) (Or.inr (Int.le_refl _))) (by omega) p6 p7
    show KP a (cmF (inC A (shI a f l) s b c) (shI a f l (b + (c : Int)) % 1000) (foF (shI a f l (b + (c : Int)))) s (c : Int)) ∧ _
    refine ⟨by rw [p3]; exact hcm.1, fun s' p q0 q1 q2 q3 q4 => ?_⟩
    show thgF (cmF (inC A (shI a f l) s b c) (shI a f l (b + (c : Int)) % 1000) (foF (shI a f l (b + (c : Int)))) s (c : Int)) s' p = -1
    rw [p3]
    exact hcm.2 s' p (by omega) (by omega) q2 q3 (by omega) (hC s' p q0 q1 q2 q3 (by omega))
theorem plan_le {a : Int → Int} {f l : Int} {pl S : Int → Int} (h : PlanOK a f l pl S) : ∀ k : Nat, (k : Int) ≤ l - f → 0 ≤ pbF pl k ∧ pl (k : Int) ≤ pl (l - f) := by
  have h1 : ∀ k : Nat, (k : Int) ≤ l - f → 0 ≤ pbF pl k ∧ 0 ≤ pl (k : Int) := by
    intro k
    induction k with
    | zero =>
      intro q
      have := h.2.1 0 q
      have e : pbF pl 0 = 0 := rfl
      omega
    | succ k ih =>
      intro q
      have ih := ih (by omega)
      have h2 := h.2.1 (k + 1) q
      have e : pbF pl (k + 1) = pl (k : Int) := by
        unfold pbF
        rw [if_neg (by omega), show (((k + 1 : Nat) : Int) - 1) = (k : Int) by omega]
      rw [e] at h2 ⊢
      omega
  have h2 : ∀ x : Nat, ∀ k : Nat, (k : Int) + x = l - f → pl (k : Int) ≤ pl (l - f) := by
    intro x
    induction x with
    | zero => intro k q; rw [show (k : Int) = l - f by omega]; exact Int.le_refl _
    | succ x ih =>
      intro k q
      have ih := ih (k + 1) (by omega)
      have h2 := h.2.1 (k + 1) (by omega)
      have e : pbF pl (k + 1) = pl (k : Int) := by
        unfold pbF
        rw [if_neg (by omega), show (((k + 1 : Nat) : Int) - 1) = (k : Int) by omega]
      rw [e] at h2
      omega
  intro k q
  exact ⟨(h1 k q).1, h2 (l - f - (k : Int)).toNat k (by omega)⟩
theorem lfC_ok {a : Int → Int} (hI : Inv a) {f l : Int} {pl S : Int → Int} (h : PlanOK a f l pl S) (hS : pl (l - f) = (shN a f l : Int)) : ∀ k : Nat, (k : Int) ≤ l - f + 1 → KP a (lfC (lvA a (shI a f l) (shN a f l)) (shI a f l) pl f k) ∧ ∀ s p, f + (k : Int) ≤ s → s ≤ l → 0 ≤ p → p < 30 → thgF (lfC (lvA a (shI a f l) (shN a f l)) (shI a f l) pl f k) s p = -1
  | 0, _ => ⟨(lvA_ok hI h.1.1 h.1.2.2 h.2.2.2 _ (Nat.le_refl _)).1, fun s p q0 q1 q2 q3 => lvA_free hI h.1.1 h.1.2.2 h.2.2.2 ⟨by omega, q1⟩ ⟨q2, q3⟩⟩
  | k + 1, hk => by
    obtain ⟨hK, hC⟩ := lfC_ok hI h hS k (by omega)
    have hp1 := h.2.1 k (by omega)
    have hp2 := plan_le h k (by omega)
    have := inC_ok hI h.1.1 h.1.2.2 h.2.2.2 hK (s := f + (k : Int)) (b := pbF pl k) (by omega) hp2.1 (fun s' p q0 q1 q2 q3 => hC s' p q0 q1 q2 q3) (pl (k : Int) - pbF pl k).toNat (by omega) (by omega)
    exact ⟨this.1, fun s p q0 q1 q2 q3 => this.2 s p (by omega) q1 q2 q3 (by omega)⟩
