/-! THE REFERENCE'S RANK: what the columns do. -/
def rwx (bs : Nat → Bg) (gr : Int32) (ax i j : Nat) : Int := if j = 0 then (if ax = 0 then 1 else 0) else if j = 1 then (if ax = 0 then 0 else 1) else if j = 2 then (if ax = 0 then -(bs i).2.1.toInt else (bs i).1.toInt) else if gr = 0 then 0 else (if ax = 0 then (bs i).1.toInt else (bs i).2.1.toInt)
def pgg (bs : Nat → Bg) (gr : Int32) (ax i f : Nat) : Int := if gr = 0 then 0 else pg bs ax i f
def TSo (bs : Nat → Bg) (n : Nat) (gr : Int32) (ax : Nat) (o : Option Nat) (a b : Int) : Prop := ∃ f, o = some f ∧ ∃ i, i < n ∧ hd bs ax i ∧ a = pt bs ax i f ∧ b = pgg bs gr ax i f
def AXo (bs : Nat → Bg) (n ax : Nat) (o : Option Nat) : Prop := (o = none ∧ ∀ i, i < n → ¬ hd bs ax i) ∨ ∃ f, o = some f ∧ f < n ∧ hd bs ax f
def oc (o : Option Nat) : Nat := match o with
  | none => 0
  | some _ => 1
def TSS (bs : Nat → Bg) (n : Nat) (gr : Int32) (o0 o1 : Option Nat) (a b : Int) : Prop := TSo bs n gr 0 o0 a b ∨ TSo bs n gr 1 o1 a b
def Inv1 (bs : Nat → Bg) (n : Nat) (gr : Int32) (o0 : Option Nat) (N : Nat) (W : Nat → Nat → Int) : Prop :=
  (∀ r, oc o0 ≤ r → r < N → (W r 0 = 0 ∧ W r 1 = 0 ∧ ∃ (u v : Int) (g : Nat), TSo bs n gr 0 o0 u v ∧ 1 ≤ g ∧ u = (g : Int) * W r 2 ∧ v = (g : Int) * W r 3) ∨ (∃ i, i < n ∧ hd bs 1 i ∧ ∀ j, j < 4 → W r j = rwx bs gr 1 i j)) ∧
  (∀ u v, TSo bs n gr 0 o0 u v → (u = 0 ∧ v = 0) ∨ ∃ r, oc o0 ≤ r ∧ r < N ∧ W r 0 = 0 ∧ W r 1 = 0 ∧ ∃ g : Nat, 1 ≤ g ∧ u = (g : Int) * W r 2 ∧ v = (g : Int) * W r 3) ∧
  (∀ i, i < n → hd bs 1 i → ∃ r, oc o0 ≤ r ∧ r < N ∧ ∀ j, j < 4 → W r j = rwx bs gr 1 i j) ∧
  (∀ r j, oc o0 ≤ r → r < N → j < 4 → (W r j).natAbs ≤ 200000) ∧ AXo bs n 0 o0
def Inv2 (bs : Nat → Bg) (n : Nat) (gr : Int32) (o0 o1 : Option Nat) (N : Nat) (W : Nat → Nat → Int) : Prop :=
  (∀ r, oc o0 + oc o1 ≤ r → r < N → W r 0 = 0 ∧ W r 1 = 0 ∧ ∃ (u v : Int) (g : Nat), TSS bs n gr o0 o1 u v ∧ 1 ≤ g ∧ u = (g : Int) * W r 2 ∧ v = (g : Int) * W r 3) ∧
  (∀ u v, TSS bs n gr o0 o1 u v → (u = 0 ∧ v = 0) ∨ ∃ r, oc o0 + oc o1 ≤ r ∧ r < N ∧ ∃ g : Nat, 1 ≤ g ∧ u = (g : Int) * W r 2 ∧ v = (g : Int) * W r 3) ∧
  (∀ r j, oc o0 + oc o1 ≤ r → r < N → j < 4 → (W r j).natAbs ≤ 200000) ∧ AXo bs n 0 o0 ∧ AXo bs n 1 o1
theorem gm0 {g : Nat} {w : Int} (hg : 1 ≤ g) (h : (g : Int) * w = 0) : w = 0 := by
  rcases Int.mul_eq_zero.mp h with z | z
  · omega
  · exact z
theorem gm1 {g : Nat} {w : Int} (h : (g : Int) * w = 1) : g = 1 := by
  have := congrArg Int.natAbs h
  rw [Int.natAbs_mul, Int.natAbs_natCast] at this
  exact Nat.eq_one_of_mul_eq_one_right this
theorem gmb {g : Nat} {w x : Int} (hg : 1 ≤ g) (h : x = (g : Int) * w) : w.natAbs ≤ x.natAbs := by
  rw [h, Int.natAbs_mul, Int.natAbs_natCast]
  exact Nat.le_mul_of_pos_left _ hg
section PHS
variable {bs : Nat → Bg} {n N p rk r c i ax f : Nat} {gr : Int32} {W W' : Nat → Nat → Int} {o0 o1 : Option Nat}
theorem rwx_d2 : rwx bs gr ax i 2 - rwx bs gr ax f 2 = pt bs ax i f := by
  unfold rwx pt
  simp only [show ¬ (2 : Nat) = 0 by decide, show ¬ (2 : Nat) = 1 by decide, if_false, if_true]
  split <;> omega
theorem rwx_d3 : rwx bs gr ax i 3 - rwx bs gr ax f 3 = pgg bs gr ax i f := by
  unfold rwx pgg pg
  simp only [show ¬ (3 : Nat) = 0 by decide, show ¬ (3 : Nat) = 1 by decide, show ¬ (3 : Nat) = 2 by decide, if_false]
  by_cases c : gr = 0
  · rw [if_pos c, if_pos c, if_pos c]
    rfl
  · rw [if_neg c, if_neg c, if_neg c]
    split <;> rfl
theorem rwx_00 : rwx bs gr 0 i 0 = 1 := rfl
theorem rwx_01 : rwx bs gr 0 i 1 = 0 := rfl
theorem rwx_10 : rwx bs gr 1 i 0 = 0 := rfl
theorem rwx_11 : rwx bs gr 1 i 1 = 1 := rfl
theorem rwx_b {j : Nat} (ok : bgok (bs i)) : (rwx bs gr ax i j).natAbs ≤ 100000 := by
  unfold bgok at ok
  unfold rwx
  repeat' split
  all_goals omega
theorem sw_from (h1 : rk < r) (h2 : r < N) : ∃ r0, rk ≤ r0 ∧ r0 < N ∧ SWr W p rk r = W r0 := by
  unfold SWr
  by_cases c : r = p
  · exact ⟨rk, by omega, by omega, if_pos c⟩
  · exact ⟨r, by omega, h2, if_neg c⟩
theorem sw_to {r0 : Nat} (h1 : rk ≤ r0) (h2 : r0 < N) (h3 : ¬ r0 = p) (h4 : rk ≤ p) (h5 : p < N) : ∃ r, rk < r ∧ r < N ∧ SWr W p rk r = W r0 := by
  unfold SWr
  by_cases c : r0 = rk
  · exact ⟨p, by omega, h5, by rw [if_pos rfl, c]⟩
  · exact ⟨r0, by omega, h2, if_neg h3⟩
/-- column 0, no pivot -/
theorem ph0n (L0 : ∀ r, r < N → ∃ ax i, ax < 2 ∧ i < n ∧ hd bs ax i ∧ ∀ j, j < 4 → W r j = rwx bs gr ax i j) (L1 : ∀ ax i, ax < 2 → i < n → hd bs ax i → ∃ r, r < N ∧ ∀ j, j < 4 → W r j = rwx bs gr ax i j) (ok : ∀ i, i < n → bgok (bs i)) (hz : ∀ r, 0 ≤ r → r < N → W r 0 = 0) : Inv1 bs n gr none N W := by
  refine ⟨fun r _ hr => ?_, fun u v z => ?_, fun i hi hh => ?_, fun r j _ hr hj => ?_, Or.inl ⟨rfl, fun i hi hh => ?_⟩⟩
  · obtain ⟨ax, i, a1, a2, a3, a4⟩ := L0 r hr
    rcases (show ax = 0 ∨ ax = 1 by omega) with z | z
    · subst z
      have := hz r (by omega) hr
      rw [a4 0 (by omega), rwx_00] at this
      omega
    · subst z
      exact Or.inr ⟨i, a2, a3, a4⟩
  · obtain ⟨f, z, _⟩ := z
    cases z
  · obtain ⟨r, h1, h2⟩ := L1 1 i (by omega) hi hh
    exact ⟨r, Nat.zero_le _, h1, h2⟩
  · obtain ⟨ax, i, a1, a2, a3, a4⟩ := L0 r hr
    rw [a4 j hj]
    have := rwx_b (gr := gr) (ax := ax) (j := j) (ok i a2)
    omega
  · obtain ⟨r, h1, h2⟩ := L1 0 i (by omega) hi hh
    have := hz r (by omega) h1
    rw [h2 0 (by omega), rwx_00] at this
    omega
theorem ph0s (L0 : ∀ r, r < N → ∃ ax i, ax < 2 ∧ i < n ∧ hd bs ax i ∧ ∀ j, j < 4 → W r j = rwx bs gr ax i j) (L1 : ∀ ax i, ax < 2 → i < n → hd bs ax i → ∃ r, r < N ∧ ∀ j, j < 4 → W r j = rwx bs gr ax i j) (ok : ∀ i, i < n → bgok (bs i)) (hp : p < N) (hp0 : W p 0 ≠ 0) (hcl : ∀ r, 0 < r → r < N → Cln W W' p 0 0 r) : ∃ f, Inv1 bs n gr (some f) N W' := by
  obtain ⟨axp, f, q1, q2, q3, q4⟩ := L0 p hp
  have hax : axp = 0 := by
    rcases (show axp = 0 ∨ axp = 1 by omega) with z | z
    · exact z
    · subst z
      rw [q4 0 (by omega), rwx_10] at hp0
      exact absurd rfl hp0
  subst hax
  have hW0 : W p 0 = 1 := by rw [q4 0 (by omega), rwx_00]
  -- a row of the old ones gives this new one
  have out : ∀ r ax i, 0 < r → r < N → ax < 2 → (∀ j, j < 4 → SWr W p 0 r j = rwx bs gr ax i j) → (ax = 0 → W' r 0 = 0 ∧ W' r 1 = 0 ∧ ∃ g : Nat, 1 ≤ g ∧ pt bs 0 i f = (g : Int) * W' r 2 ∧ pgg bs gr 0 i f = (g : Int) * W' r 3) ∧ (ax = 1 → ∀ j, j < 4 → W' r j = rwx bs gr 1 i j) := by
    intro r ax i h1 h2 h3 hs
    obtain ⟨g, hg, e, _⟩ := hcl r h1 h2
    rw [hW0, hs 0 (by omega)] at e
    have e' : ∀ j, j < 4 → rwx bs gr ax i j - rwx bs gr 0 f j * rwx bs gr ax i 0 = (g : Int) * W' r j := fun j hj => by
      have := e j hj
      rw [hs j hj, q4 j hj, Int.mul_one] at this
      exact this
    constructor
    · intro z
      subst z
      have e0 := e' 0 (by omega)
      have e1 := e' 1 (by omega)
      have e2 := e' 2 (by omega)
      have e3 := e' 3 (by omega)
      rw [rwx_00, Int.mul_one] at e0 e1 e2 e3
      rw [rwx_00, Int.sub_self] at e0
      rw [rwx_01, rwx_01, Int.sub_self] at e1
      rw [rwx_d2] at e2
      rw [rwx_d3] at e3
      exact ⟨gm0 hg e0.symm, gm0 hg e1.symm, g, hg, e2, e3⟩
    · intro z
      subst z
      have e1 := e' 1 (by omega)
      rw [rwx_10, Int.mul_zero, Int.sub_zero, rwx_11] at e1
      have hg1 := gm1 e1.symm
      intro j hj
      have := e' j hj
      rw [rwx_10, Int.mul_zero, Int.sub_zero, hg1] at this
      rw [this]
      exact (Int.one_mul _).symm
  have src : ∀ r, 0 < r → r < N → ∃ ax i, ax < 2 ∧ i < n ∧ hd bs ax i ∧ ∀ j, j < 4 → SWr W p 0 r j = rwx bs gr ax i j := by
    intro r h1 h2
    obtain ⟨r0, a1, a2, a3⟩ := sw_from (W := W) (p := p) h1 h2
    rw [a3]
    exact L0 r0 a2
  refine ⟨f, fun r h1 h2 => ?_, fun u v z => ?_, fun i hi hh => ?_, fun r j h1 h2 hj => ?_, Or.inr ⟨f, rfl, q2, q3⟩⟩
  · have h1' : 0 < r := h1
    obtain ⟨ax, i, a1, a2, a3, a4⟩ := src r h1' h2
    obtain ⟨o1, o2⟩ := out r ax i h1' h2 a1 a4
    rcases (show ax = 0 ∨ ax = 1 by omega) with z | z
    · obtain ⟨b1, b2, g, b3, b4, b5⟩ := o1 z
      subst z
      exact Or.inl ⟨b1, b2, _, _, g, ⟨f, rfl, i, a2, a3, rfl, rfl⟩, b3, b4, b5⟩
    · have := o2 z
      subst z
      exact Or.inr ⟨i, a2, a3, this⟩
  · obtain ⟨f', ef, i, i1, i2, i3, i4⟩ := z
    cases ef
    obtain ⟨r0, h1, h2⟩ := L1 0 i (by omega) i1 i2
    by_cases c : r0 = p
    · subst c
      left
      rw [i3, i4, ← rwx_d2 (gr := gr), ← rwx_d3, ← h2 2 (by omega), ← h2 3 (by omega), ← q4 2 (by omega), ← q4 3 (by omega)]
      omega
    · right
      obtain ⟨r, r1, r2, r3⟩ := sw_to (W := W) (rk := 0) (Nat.zero_le _) h1 c (Nat.zero_le _) hp
      obtain ⟨b1, b2, g, b3, b4, b5⟩ := (out r 0 i r1 r2 (by omega) (fun j hj => by rw [r3]; exact h2 j hj)).1 rfl
      exact ⟨r, r1, r2, b1, b2, g, b3, by rw [i3]; exact b4, by rw [i4]; exact b5⟩
  · obtain ⟨r0, h1, h2⟩ := L1 1 i (by omega) hi hh
    have c : ¬ r0 = p := by
      intro z
      subst z
      rw [h2 0 (by omega), rwx_10] at hW0
      omega
    obtain ⟨r, r1, r2, r3⟩ := sw_to (W := W) (rk := 0) (Nat.zero_le _) h1 c (Nat.zero_le _) hp
    exact ⟨r, r1, r2, (out r 1 i r1 r2 (by omega) (fun j hj => by rw [r3]; exact h2 j hj)).2 rfl⟩
  · have h1' : 0 < r := h1
    obtain ⟨ax, i, a1, a2, a3, a4⟩ := src r h1' h2
    obtain ⟨g, hg, e, _⟩ := hcl r h1' h2
    have := e j hj
    rw [hW0, a4 j hj, a4 0 (by omega), q4 j hj, Int.mul_one] at this
    have hb := gmb hg this
    have b1 := rwx_b (gr := gr) (ax := ax) (j := j) (ok i a2)
    have b2 := rwx_b (gr := gr) (ax := 0) (j := j) (ok f q2)
    have b3 : (rwx bs gr 0 f j * rwx bs gr ax i 0).natAbs ≤ 100000 := by
      rw [Int.natAbs_mul]
      have : (rwx bs gr ax i 0).natAbs ≤ 1 := by
        unfold rwx
        rw [if_pos rfl]
        split <;> decide
      have := Nat.mul_le_mul b2 this
      omega
    omega
/-- column 1 -/
theorem ph1n (I : Inv1 bs n gr o0 N W) (hz : ∀ r, oc o0 ≤ r → r < N → W r 1 = 0) : Inv2 bs n gr o0 none N W := by
  obtain ⟨K0, K1, K2, K3, K4⟩ := I
  have e : oc o0 + oc none = oc o0 := rfl
  have nohd : ∀ i, i < n → ¬ hd bs 1 i := fun i hi hh => by
    obtain ⟨r, h1, h2, h3⟩ := K2 i hi hh
    have := hz r h1 h2
    rw [h3 1 (by omega), rwx_11] at this
    omega
  refine ⟨fun r h1 h2 => ?_, fun u v z => ?_, fun r j h1 h2 hj => K3 r j (by rw [e] at h1; exact h1) h2 hj, K4, Or.inl ⟨rfl, nohd⟩⟩
  · rw [e] at h1
    rcases K0 r h1 h2 with ⟨b1, b2, u, v, g, b3, b4⟩ | ⟨i, i1, i2, _⟩
    · exact ⟨b1, b2, u, v, g, Or.inl b3, b4⟩
    · exact absurd i2 (nohd i i1)
  · rcases z with z | ⟨f, z, _⟩
    · rcases K1 u v z with y | ⟨r, h1, h2, _, _, h5⟩
      · exact Or.inl y
      · exact Or.inr ⟨r, h1, h2, h5⟩
    · cases z
theorem ph1s (I : Inv1 bs n gr o0 N W) (ok : ∀ i, i < n → bgok (bs i)) (hp1 : oc o0 ≤ p) (hp : p < N) (hp0 : W p 1 ≠ 0) (hcl : ∀ r, oc o0 < r → r < N → Cln W W' p (oc o0) 1 r) : ∃ f, Inv2 bs n gr o0 (some f) N W' := by
  obtain ⟨K0, K1, K2, K3, K4⟩ := I
  obtain ⟨f, q2, q3, q4⟩ : ∃ f, f < n ∧ hd bs 1 f ∧ ∀ j, j < 4 → W p j = rwx bs gr 1 f j := by
    rcases K0 p hp1 hp with ⟨_, b2, _⟩ | z
    · exact absurd b2 hp0
    · exact z
  have hW1 : W p 1 = 1 := by rw [q4 1 (by omega), rwx_11]
  have hW0 : W p 0 = 0 := by rw [q4 0 (by omega), rwx_10]
  have e : oc o0 + oc (some f) = oc o0 + 1 := rfl
  have zero0 : ∀ r, oc o0 ≤ r → r < N → W r 0 = 0 := fun r h1 h2 => by
    rcases K0 r h1 h2 with ⟨b1, _⟩ | ⟨i, _, _, b⟩
    · exact b1
    · rw [b 0 (by omega), rwx_10]
  -- a difference row stays what it is, up to its scale
  have outA : ∀ r r0, oc o0 < r → r < N → SWr W p (oc o0) r = W r0 → W r0 0 = 0 → W r0 1 = 0 → ∀ (u v : Int) (g : Nat), 1 ≤ g → u = (g : Int) * W r0 2 → v = (g : Int) * W r0 3 → W' r 0 = 0 ∧ W' r 1 = 0 ∧ ∃ g' : Nat, 1 ≤ g' ∧ u = (g' : Int) * W' r 2 ∧ v = (g' : Int) * W' r 3 := by
    intro r r0 h1 h2 hs z0 z1 u v g hg hu hv
    obtain ⟨g2, hg2, e', _⟩ := hcl r h1 h2
    rw [hs, hW1, z1] at e'
    have e'' : ∀ j, j < 4 → W r0 j = (g2 : Int) * W' r j := fun j hj => by
      have := e' j hj
      rw [Int.mul_one, Int.mul_zero, Int.sub_zero] at this
      exact this
    refine ⟨gm0 hg2 ((e'' 0 (by omega)).symm.trans z0), gm0 hg2 ((e'' 1 (by omega)).symm.trans z1), g * g2, Nat.mul_pos hg hg2, ?_, ?_⟩
    · rw [hu, e'' 2 (by omega), Int.natCast_mul, Int.mul_assoc]
    · rw [hv, e'' 3 (by omega), Int.natCast_mul, Int.mul_assoc]
  have outB : ∀ r r0 i, oc o0 < r → r < N → SWr W p (oc o0) r = W r0 → (∀ j, j < 4 → W r0 j = rwx bs gr 1 i j) → W' r 0 = 0 ∧ W' r 1 = 0 ∧ ∃ g : Nat, 1 ≤ g ∧ pt bs 1 i f = (g : Int) * W' r 2 ∧ pgg bs gr 1 i f = (g : Int) * W' r 3 := by
    intro r r0 i h1 h2 hs hr
    obtain ⟨g, hg, e', _⟩ := hcl r h1 h2
    rw [hs, hW1, hr 1 (by omega), rwx_11] at e'
    have e'' : ∀ j, j < 4 → rwx bs gr 1 i j - rwx bs gr 1 f j = (g : Int) * W' r j := fun j hj => by
      have := e' j hj
      rw [Int.mul_one, Int.mul_one, hr j hj, q4 j hj] at this
      exact this
    have e0 := e'' 0 (by omega)
    have e1 := e'' 1 (by omega)
    have e2 := e'' 2 (by omega)
    have e3 := e'' 3 (by omega)
    rw [rwx_10, rwx_10, Int.sub_self] at e0
    rw [rwx_11, rwx_11, Int.sub_self] at e1
    rw [rwx_d2] at e2
    rw [rwx_d3] at e3
    exact ⟨gm0 hg e0.symm, gm0 hg e1.symm, g, hg, e2, e3⟩
  refine ⟨f, fun r h1 h2 => ?_, fun u v z => ?_, fun r j h1 h2 hj => ?_, K4, Or.inr ⟨f, rfl, q2, q3⟩⟩
  · rw [e] at h1
    obtain ⟨r0, a1, a2, a3⟩ := sw_from (W := W) (p := p) (rk := oc o0) (show oc o0 < r by omega) h2
    rcases K0 r0 a1 a2 with ⟨b1, b2, u, v, g, b3, b4, b5, b6⟩ | ⟨i, i1, i2, i3⟩
    · obtain ⟨d1, d2, g', d3, d4, d5⟩ := outA r r0 (by omega) h2 a3 b1 b2 u v g b4 b5 b6
      exact ⟨d1, d2, u, v, g', Or.inl b3, d3, d4, d5⟩
    · obtain ⟨d1, d2, g', d3, d4, d5⟩ := outB r r0 i (by omega) h2 a3 i3
      exact ⟨d1, d2, _, _, g', Or.inr ⟨f, rfl, i, i1, i2, rfl, rfl⟩, d3, d4, d5⟩
  · rcases z with z | ⟨f', ef, i, i1, i2, i3, i4⟩
    · rcases K1 u v z with y | ⟨r0, h1, h2, b1, b2, g, b3, b4, b5⟩
      · exact Or.inl y
      · have c : ¬ r0 = p := fun z => by
          subst z
          omega
        obtain ⟨r, r1, r2, r3⟩ := sw_to (W := W) h1 h2 c hp1 hp
        obtain ⟨_, _, g', d3, d4, d5⟩ := outA r r0 r1 r2 r3 b1 b2 u v g b3 b4 b5
        exact Or.inr ⟨r, by rw [e]; omega, r2, g', d3, d4, d5⟩
    · cases ef
      obtain ⟨r0, h1, h2, h3⟩ := K2 i i1 i2
      by_cases c : r0 = p
      · subst c
        left
        rw [i3, i4, ← rwx_d2 (gr := gr), ← rwx_d3, ← h3 2 (by omega), ← h3 3 (by omega), ← q4 2 (by omega), ← q4 3 (by omega)]
        omega
      · obtain ⟨r, r1, r2, r3⟩ := sw_to (W := W) h1 h2 c hp1 hp
        obtain ⟨_, _, g', d3, d4, d5⟩ := outB r r0 i r1 r2 r3 h3
        exact Or.inr ⟨r, by rw [e]; omega, r2, g', d3, by rw [i3]; exact d4, by rw [i4]; exact d5⟩
  · rw [e] at h1
    obtain ⟨r0, a1, a2, a3⟩ := sw_from (W := W) (p := p) (rk := oc o0) (show oc o0 < r by omega) h2
    obtain ⟨g, hg, e', _⟩ := hcl r (by omega) h2
    have t := e' j hj
    rw [a3, hW1, Int.mul_one] at t
    have hb := gmb hg t
    have b1 := K3 r0 j a1 a2 hj
    rcases K0 r0 a1 a2 with ⟨_, b2, _⟩ | ⟨i, i1, i2, i3⟩
    · rw [b2, Int.mul_zero, Int.sub_zero] at hb
      omega
    · rw [i3 1 (by omega), rwx_11, Int.mul_one, i3 j hj, q4 j hj] at hb
      have c1 := rwx_b (gr := gr) (ax := 1) (j := j) (ok i i1)
      have c2 := rwx_b (gr := gr) (ax := 1) (j := j) (ok f q2)
      omega
/-- columns 2 and 3 -/
theorem ph2n3n (I : Inv2 bs n gr o0 o1 N W) (h2 : ∀ r, oc o0 + oc o1 ≤ r → r < N → W r 2 = 0) (h3 : ∀ r, oc o0 + oc o1 ≤ r → r < N → W r 3 = 0) : rkB (TSS bs n gr o0 o1) 0 := by
  obtain ⟨M0, M1, _⟩ := I
  refine Or.inr (Or.inr ⟨rfl, fun a b z => ?_⟩)
  rcases M1 a b z with y | ⟨r, r1, r2, g, g1, g2, g3⟩
  · exact y
  · rw [h2 r r1 r2, Int.mul_zero] at g2
    rw [h3 r r1 r2, Int.mul_zero] at g3
    exact ⟨g2, g3⟩
theorem ph2n3s (I : Inv2 bs n gr o0 o1 N W) (h2 : ∀ r, oc o0 + oc o1 ≤ r → r < N → W r 2 = 0) (h3 : oc o0 + oc o1 ≤ p) (h4 : p < N) (h5 : W p 3 ≠ 0) : rkB (TSS bs n gr o0 o1) 1 := by
  obtain ⟨M0, M1, _⟩ := I
  have az : ∀ a b, TSS bs n gr o0 o1 a b → a = 0 := fun a b z => by
    rcases M1 a b z with y | ⟨r, r1, r2, g, g1, g2, g3⟩
    · exact y.1
    · rw [h2 r r1 r2, Int.mul_zero] at g2
      exact g2
  refine Or.inr (Or.inl ⟨rfl, ?_, fun a b c d z1 z2 => ?_⟩)
  · obtain ⟨_, _, u, v, g, m1, m2, m3, m4⟩ := M0 p h3 h4
    exact ⟨u, v, m1, Or.inr (fun z => h5 (gm0 m2 (by rw [← m4]; exact z)))⟩
  · rw [az a b z1, az c d z2, Int.zero_mul, Int.mul_zero]
/-- the rows behind column 2 -/
theorem ph2s (I : Inv2 bs n gr o0 o1 N W) (hcl : ∀ r, oc o0 + oc o1 < r → r < N → Cln W W' p (oc o0 + oc o1) 2 r) (h3 : oc o0 + oc o1 ≤ p) (h4 : p < N) : ∀ r, oc o0 + oc o1 < r → r < N → W' r 0 = 0 ∧ W' r 1 = 0 ∧ W' r 2 = 0 ∧ (-1 ≤ W' r 3 ∧ W' r 3 ≤ 1) ∧ ∃ r0, oc o0 + oc o1 ≤ r0 ∧ r0 < N ∧ SWr W p (oc o0 + oc o1) r = W r0 ∧ (W' r 3 = 0 ↔ W r0 3 * W p 2 - W p 3 * W r0 2 = 0) := by
  obtain ⟨M0, M1, _⟩ := I
  intro r r1 r2
  obtain ⟨r0, a1, a2, a3⟩ := sw_from (W := W) (p := p) r1 r2
  obtain ⟨g, hg, e, fl⟩ := hcl r r1 r2
  rw [a3] at e fl
  obtain ⟨b0, b1, _⟩ := M0 r0 a1 a2
  obtain ⟨c0, c1, _⟩ := M0 p h3 h4
  have e0 := e 0 (by omega)
  have e1 := e 1 (by omega)
  have e2 := e 2 (by omega)
  have e3 := e 3 (by omega)
  have z0 : W r0 0 * W p 2 - W p 0 * W r0 2 = 0 := by rw [b0, c0, Int.zero_mul, Int.zero_mul]; rfl
  have z1 : W r0 1 * W p 2 - W p 1 * W r0 2 = 0 := by rw [b1, c1, Int.zero_mul, Int.zero_mul]; rfl
  have z2 : W r0 2 * W p 2 - W p 2 * W r0 2 = 0 := by rw [Int.mul_comm, Int.sub_self]
  refine ⟨gm0 hg (e0.symm.trans z0), gm0 hg (e1.symm.trans z1), gm0 hg (e2.symm.trans z2), fl ⟨z0, z1, z2⟩, r0, a1, a2, a3, fun z => ?_, fun z => ?_⟩
  · rw [e3, z, Int.mul_zero]
  · exact gm0 hg (e3.symm.trans z)
theorem ph2s3n (I : Inv2 bs n gr o0 o1 N W) (hcl : ∀ r, oc o0 + oc o1 < r → r < N → Cln W W' p (oc o0 + oc o1) 2 r) (h3 : oc o0 + oc o1 ≤ p) (h4 : p < N) (h5 : W p 2 ≠ 0) (h6 : ∀ r, oc o0 + oc o1 + 1 ≤ r → r < N → W' r 3 = 0) : rkB (TSS bs n gr o0 o1) 1 := by
  have P := ph2s I hcl h3 h4
  obtain ⟨M0, M1, _⟩ := I
  have par : ∀ r0, oc o0 + oc o1 ≤ r0 → r0 < N → W p 2 * W r0 3 = W p 3 * W r0 2 := by
    intro r0 a1 a2
    by_cases c : r0 = p
    · rw [c, Int.mul_comm]
    · obtain ⟨r, r1, r2, r3⟩ := sw_to (W := W) a1 a2 c h3 h4
      obtain ⟨_, _, _, _, r0', b1, b2, b3, b4⟩ := P r r1 r2
      have := b4.mp (h6 r r1 r2)
      rw [← b3, r3] at this
      rw [Int.mul_comm (W p 2)]
      omega
  have all : ∀ a b, TSS bs n gr o0 o1 a b → W p 2 * b = W p 3 * a := by
    intro a b z
    rcases M1 a b z with y | ⟨r, r1, r2, g, g1, g2, g3⟩
    · rw [y.1, y.2, Int.mul_zero, Int.mul_zero]
    · rw [g2, g3, Int.mul_left_comm, par r r1 r2, Int.mul_left_comm]
  refine Or.inr (Or.inl ⟨rfl, ?_, fun a b c d z1 z2 => par_par (Or.inl h5) (all a b z1) (all c d z2)⟩)
  obtain ⟨_, _, u, v, g, m1, m2, m3, m4⟩ := M0 p h3 h4
  exact ⟨u, v, m1, Or.inl (fun z => h5 (gm0 m2 (by rw [← m3]; exact z)))⟩
theorem ph2s3s (I : Inv2 bs n gr o0 o1 N W) (hcl : ∀ r, oc o0 + oc o1 < r → r < N → Cln W W' p (oc o0 + oc o1) 2 r) (h3 : oc o0 + oc o1 ≤ p) (h4 : p < N) (h6 : oc o0 + oc o1 + 1 ≤ r) (h7 : r < N) (h8 : W' r 3 ≠ 0) : rkB (TSS bs n gr o0 o1) 2 := by
  have P := ph2s I hcl h3 h4 r h6 h7
  obtain ⟨M0, M1, _⟩ := I
  obtain ⟨_, _, _, _, r0, b1, b2, b3, b4⟩ := P
  have hne : W r0 3 * W p 2 - W p 3 * W r0 2 ≠ 0 := fun z => h8 (b4.mpr z)
  obtain ⟨_, _, u, v, g, m1, m2, m3, m4⟩ := M0 p h3 h4
  obtain ⟨_, _, u', v', g', m1', m2', m3', m4'⟩ := M0 r0 b1 b2
  refine Or.inl ⟨rfl, u, v, u', v', m1, m1', ?_⟩
  intro z
  apply hne
  rw [m3, m4, m3', m4'] at z
  have t : (g : Int) * ((g' : Int) * (W r0 3 * W p 2 - W p 3 * W r0 2)) = 0 := by
    have e1 : (g : Int) * W p 2 * ((g' : Int) * W r0 3) = (g : Int) * ((g' : Int) * (W r0 3 * W p 2)) := by
      rw [Int.mul_assoc, Int.mul_left_comm (W p 2), Int.mul_comm (W p 2)]
    have e2 : (g : Int) * W p 3 * ((g' : Int) * W r0 2) = (g : Int) * ((g' : Int) * (W p 3 * W r0 2)) := by
      rw [Int.mul_assoc, Int.mul_left_comm (W p 3)]
    rw [e1, e2] at z
    rw [Int.mul_sub, Int.mul_sub, z, Int.sub_self]
  exact gm0 m2' (gm0 m2 t)
theorem AXo.rka (h : AXo bs n ax o0) : rkA bs n ax (oc o0) := by
  rcases h with ⟨rfl, h⟩ | ⟨f, rfl, h1, h2⟩
  · exact Or.inr ⟨rfl, h⟩
  · exact Or.inl ⟨rfl, f, h1, h2⟩
theorem AXo.axs (h : AXo bs n ax o0) (hg : ¬ gr = 0) : axs bs n ax (TSo bs n gr ax o0) := by
  rcases h with ⟨rfl, h⟩ | ⟨f, rfl, h1, h2⟩
  · exact Or.inr ⟨h, fun a b z => by obtain ⟨f, z, _⟩ := z; cases z⟩
  · refine Or.inl ⟨f, h1, h2, fun a b => ⟨fun z => ?_, fun z => ?_⟩⟩
    · obtain ⟨f', ef, i, i1, i2, i3, i4⟩ := z
      cases ef
      unfold pgg at i4
      rw [if_neg hg] at i4
      exact ⟨i, i1, i2, i3, i4⟩
    · obtain ⟨i, i1, i2, i3, i4⟩ := z
      exact ⟨f, rfl, i, i1, i2, i3, by unfold pgg; rw [if_neg hg]; exact i4⟩
theorem TSo_0 {a b : Int} (h : TSo bs n 0 ax o0 a b) : b = 0 ∧ ∃ b', TSo bs n 1 ax o0 a b' := by
  obtain ⟨f, ef, i, i1, i2, i3, i4⟩ := h
  exact ⟨i4, _, f, ef, i, i1, i2, i3, rfl⟩
theorem TSo_1 {a b : Int} (h : TSo bs n 1 ax o0 a b) : TSo bs n 0 ax o0 a 0 := by
  obtain ⟨f, ef, i, i1, i2, i3, i4⟩ := h
  exact ⟨f, ef, i, i1, i2, i3, rfl⟩
theorem fin_rk (h0 : AXo bs n 0 o0) (h1 : AXo bs n 1 o1) (hr : rkB (TSS bs n gr o0 o1) c) : RK bs n (¬ gr = 0) (oc o0 + oc o1 + c) := by
  refine ⟨oc o0, oc o1, c, h0.rka, h1.rka, fun hg => ?_, fun hg => ?_, rfl⟩
  · obtain ⟨a1, a2⟩ := axs_rk (h0.axs hg) (h1.axs hg) (S := TSS bs n gr o0 o1) (fun a b => Iff.rfl)
    exact rkB_diff a1 a2 hr
  · obtain rfl : gr = 0 := Decidable.not_not.mp hg
    have h10 : ¬ (1 : Int32) = 0 := by decide
    obtain ⟨a1, a2⟩ := axs_rk (h0.axs h10) (h1.axs h10) (S := TSS bs n 1 o0 o1) (fun a b => Iff.rfl)
    refine rkT_diff a1 a2 ?_
    have dn : ∀ a b, TSS bs n 0 o0 o1 a b → b = 0 ∧ ∃ b', TSS bs n 1 o0 o1 a b' := fun a b z => by
      rcases z with z | z
      · obtain ⟨e, b', y⟩ := TSo_0 z
        exact ⟨e, b', Or.inl y⟩
      · obtain ⟨e, b', y⟩ := TSo_0 z
        exact ⟨e, b', Or.inr y⟩
    have up : ∀ a b, TSS bs n 1 o0 o1 a b → TSS bs n 0 o0 o1 a 0 := fun a b z => by
      rcases z with z | z
      · exact Or.inl (TSo_1 z)
      · exact Or.inr (TSo_1 z)
    rcases hr with ⟨rfl, a, b, c', d, z1, z2, z3⟩ | ⟨rfl, ⟨a, b, z1, z2⟩, _⟩ | ⟨rfl, z⟩
    · rw [(dn a b z1).1, (dn c' d z2).1, Int.mul_zero, Int.zero_mul] at z3
      exact absurd rfl z3
    · obtain ⟨e, b', y⟩ := dn a b z1
      exact Or.inl ⟨rfl, a, b', y, by
        rcases z2 with w | w
        · exact w
        · exact absurd e w⟩
    · exact Or.inr ⟨rfl, fun a b y => (z a 0 (up a b y)).1⟩
end PHS
