/-! THE TABLES ARE RIGHT: each is checked against the Statement's words by the kernel. -/
theorem pm_inw {p : Nat} {w : Cond} (h : lw_tbl[p]? = some w) (g : goodWord w = true) : w ∈ pm_ws := List.mem_filter.mpr ⟨List.mem_of_getElem? h, g⟩
theorem pm_inn {p : Nat} {w : Cond} (h : lw_tbl[p]? = some w) (g : pm_isn w = true) : w ∈ pm_nws := List.mem_filter.mpr ⟨List.mem_of_getElem? h, g⟩
theorem pm_all2 {f : Nat → Nat → Bool} {a b : Nat} (h : (List.range a).all (fun o => (List.range b).all (f o)) = true) {o k : Nat} (ho : o < a) (hk : k < b) : f o k = true :=
  List.all_eq_true.mp (List.all_eq_true.mp h o (List.mem_range.mpr ho)) k (List.mem_range.mpr hk)
-- instructions
def pm_okp (j pc : Nat) : Bool := match pm_cd j pc with
  | none => true
  | some q => decide (decode (pm_by j) pc = .ok q) && (Nat.beq (pm_ln q.1) 0 || Nat.beq q.2 (pm_ln q.1))
def pm_okm (j : Nat) : Bool := (List.range (pm_bl j)).all (pm_okp j)
def pm_okr (a n : Nat) : Bool := (List.range' a n).all pm_okm
theorem pm_ok_0 : pm_okr 0 8 = true := by decide +kernel
theorem pm_ok_8 : pm_okr 8 8 = true := by decide +kernel
theorem pm_ok_16 : pm_okr 16 8 = true := by decide +kernel
theorem pm_ok_24 : pm_okr 24 8 = true := by decide +kernel
theorem pm_ok_32 : pm_okr 32 8 = true := by decide +kernel
theorem pm_ok_40 : pm_okr 40 8 = true := by decide +kernel
theorem pm_ok_48 : pm_okr 48 8 = true := by decide +kernel
theorem pm_ok_56 : pm_okr 56 8 = true := by decide +kernel
theorem pm_ok_64 : pm_okr 64 8 = true := by decide +kernel
theorem pm_ok_72 : pm_okr 72 8 = true := by decide +kernel
theorem pm_ok_80 : pm_okr 80 8 = true := by decide +kernel
theorem pm_ok_88 : pm_okr 88 8 = true := by decide +kernel
theorem pm_ok_96 : pm_okr 96 8 = true := by decide +kernel
theorem pm_ok_104 : pm_okr 104 8 = true := by decide +kernel
theorem pm_ok_112 : pm_okr 112 8 = true := by decide +kernel
theorem pm_ok_120 : pm_okr 120 8 = true := by decide +kernel
theorem pm_ok_128 : pm_okr 128 8 = true := by decide +kernel
theorem pm_ok_136 : pm_okr 136 8 = true := by decide +kernel
theorem pm_ok_144 : pm_okr 144 2 = true := by decide +kernel
theorem pm_okl_0 : (List.range' 0 100).all (pm_okp 146) = true := by decide +kernel
theorem pm_okl_100 : (List.range' 100 100).all (pm_okp 146) = true := by decide +kernel
theorem pm_okl_200 : (List.range' 200 100).all (pm_okp 146) = true := by decide +kernel
theorem pm_okl_300 : (List.range' 300 100).all (pm_okp 146) = true := by decide +kernel
theorem pm_okl_400 : (List.range' 400 100).all (pm_okp 146) = true := by decide +kernel
theorem pm_okl_500 : (List.range' 500 100).all (pm_okp 146) = true := by decide +kernel
theorem pm_okl_600 : (List.range' 600 100).all (pm_okp 146) = true := by decide +kernel
theorem pm_okl_700 : (List.range' 700 100).all (pm_okp 146) = true := by decide +kernel
theorem pm_okl_800 : (List.range' 800 31).all (pm_okp 146) = true := by decide +kernel
theorem pm_inr {f : Nat → Bool} {a n : Nat} (h : (List.range' a n).all f = true) {j : Nat} (h1 : a ≤ j) (h2 : j < a + n) : f j = true := List.all_eq_true.mp h j (List.mem_range'_1.mpr ⟨h1, h2⟩)
theorem pm_okm_of {j : Nat} (h : pm_okm j = true) : ∀ pc, pc < pm_bl j → pm_okp j pc = true := fun pc hpc => List.all_eq_true.mp h pc (List.mem_range.mpr hpc)
theorem pm_ok_law : ∀ pc, pc < 831 → pm_okp 146 pc = true := by
  intro pc hpc
  by_cases h0 : pc < 100
  · exact pm_inr pm_okl_0 (by omega) (by omega)
  by_cases h100 : pc < 200
  · exact pm_inr pm_okl_100 (by omega) (by omega)
  by_cases h200 : pc < 300
  · exact pm_inr pm_okl_200 (by omega) (by omega)
  by_cases h300 : pc < 400
  · exact pm_inr pm_okl_300 (by omega) (by omega)
  by_cases h400 : pc < 500
  · exact pm_inr pm_okl_400 (by omega) (by omega)
  by_cases h500 : pc < 600
  · exact pm_inr pm_okl_500 (by omega) (by omega)
  by_cases h600 : pc < 700
  · exact pm_inr pm_okl_600 (by omega) (by omega)
  by_cases h700 : pc < 800
  · exact pm_inr pm_okl_700 (by omega) (by omega)
  by_cases h800 : pc < 831
  · exact pm_inr pm_okl_800 (by omega) (by omega)
  exact absurd hpc (by omega)
theorem pm_ok_all : ∀ j, j < pm_nM → ∀ pc, pc < pm_bl j → pm_okp j pc = true := by
  intro j hj
  have hj : j < 147 := hj
  by_cases h0 : j < 8
  · exact pm_okm_of (pm_inr pm_ok_0 (by omega) (by omega))
  by_cases h8 : j < 16
  · exact pm_okm_of (pm_inr pm_ok_8 (by omega) (by omega))
  by_cases h16 : j < 24
  · exact pm_okm_of (pm_inr pm_ok_16 (by omega) (by omega))
  by_cases h24 : j < 32
  · exact pm_okm_of (pm_inr pm_ok_24 (by omega) (by omega))
  by_cases h32 : j < 40
  · exact pm_okm_of (pm_inr pm_ok_32 (by omega) (by omega))
  by_cases h40 : j < 48
  · exact pm_okm_of (pm_inr pm_ok_40 (by omega) (by omega))
  by_cases h48 : j < 56
  · exact pm_okm_of (pm_inr pm_ok_48 (by omega) (by omega))
  by_cases h56 : j < 64
  · exact pm_okm_of (pm_inr pm_ok_56 (by omega) (by omega))
  by_cases h64 : j < 72
  · exact pm_okm_of (pm_inr pm_ok_64 (by omega) (by omega))
  by_cases h72 : j < 80
  · exact pm_okm_of (pm_inr pm_ok_72 (by omega) (by omega))
  by_cases h80 : j < 88
  · exact pm_okm_of (pm_inr pm_ok_80 (by omega) (by omega))
  by_cases h88 : j < 96
  · exact pm_okm_of (pm_inr pm_ok_88 (by omega) (by omega))
  by_cases h96 : j < 104
  · exact pm_okm_of (pm_inr pm_ok_96 (by omega) (by omega))
  by_cases h104 : j < 112
  · exact pm_okm_of (pm_inr pm_ok_104 (by omega) (by omega))
  by_cases h112 : j < 120
  · exact pm_okm_of (pm_inr pm_ok_112 (by omega) (by omega))
  by_cases h120 : j < 128
  · exact pm_okm_of (pm_inr pm_ok_120 (by omega) (by omega))
  by_cases h128 : j < 136
  · exact pm_okm_of (pm_inr pm_ok_128 (by omega) (by omega))
  by_cases h136 : j < 144
  · exact pm_okm_of (pm_inr pm_ok_136 (by omega) (by omega))
  by_cases h144 : j < 146
  · exact pm_okm_of (pm_inr pm_ok_144 (by omega) (by omega))
  obtain rfl : j = 146 := by omega
  exact pm_ok_law
theorem pm_V_c {j pc : Nat} {i : Instr} {len : Nat} (h : pm_cd j pc = some (i, len)) : decode (pm_by j) pc = .ok (i, len) ∧ (pm_ln i = 0 ∨ len = pm_ln i) := by
  by_cases hj : j < pm_nM
  · by_cases hpc : pc < pm_bl j
    · have h1 := pm_ok_all j hj pc hpc
      unfold pm_okp at h1
      rw [h] at h1
      simp only [Bool.and_eq_true, Bool.or_eq_true, decide_eq_true_eq] at h1
      exact ⟨h1.1, h1.2.imp Nat.eq_of_beq_eq_true Nat.eq_of_beq_eq_true⟩
    · have h1 : pm_cd j pc = none := by
        unfold pm_cd
        rw [Nat.ble_eq_true_of_le (Nat.not_lt.mp hpc)]
        cases Nat.ble pm_nM j <;> rfl
      rw [h1] at h; cases h
  · have h1 : pm_cd j pc = none := by
      unfold pm_cd
      rw [Nat.ble_eq_true_of_le (Nat.not_lt.mp hj)]
      rfl
    rw [h1] at h; cases h
-- what is looked up by owner and place
theorem pm_gd {α : Type} {o k : Nat} {f : Option α} {v : α} (h : cond (Nat.ble pm_nK k) none (cond (Nat.ble pm_nO o) none f) = some v) : o < pm_nO ∧ k < pm_nK := by
  cases h1 : Nat.ble pm_nK k with
  | true => rw [h1] at h; cases h
  | false =>
    rw [h1] at h
    cases h2 : Nat.ble pm_nO o with
    | true => rw [h2] at h; cases h
    | false =>
      constructor
      · exact Nat.lt_of_not_le fun q => by rw [Nat.ble_eq_true_of_le q] at h2; cases h2
      · exact Nat.lt_of_not_le fun q => by rw [Nat.ble_eq_true_of_le q] at h1; cases h1
-- classes
def pm_okc (ci : Nat) : Bool := match pm_cls[ci]? with
  | none => true
  | some (C, T, N) => (u_ws C T N).all (fun w => decide (w ∈ lw_tbl) && goodWord w) && (List.range N).all (fun k => decide (parseFieldDescriptor (T k).2.2.1 = some (pm_ft ci k)) && decide (defaultValue (pm_ft ci k) = vp_V (pm_cf ci) k)) && decide ((pm_cf ci).length = N) && (List.range N).all (fun a => (List.range N).all fun b => decide (a = b) || !decide ((T a).2.1 = (T b).2.1))
theorem pm_okc_all : (List.range 11).all pm_okc = true := by decide +kernel
theorem pm_V_cl {ci : Nat} {C : String} {T : u_T} {N : Nat} (h : pm_cls[ci]? = some (C, T, N)) : (∀ w ∈ u_ws C T N, w ∈ pm_ws) ∧ (∀ k, k < N → parseFieldDescriptor (T k).2.2.1 = some (pm_ft ci k)) ∧ (∀ a, a < N → ∀ b, b < N → a ≠ b → (T a).2.1 ≠ (T b).2.1) ∧ (∀ k, k < N → defaultValue (pm_ft ci k) = vp_V (pm_cf ci) k) ∧ (pm_cf ci).length = N := by
  have hl : ci < 11 := (List.getElem?_eq_some_iff.mp h).1
  have h1 := List.all_eq_true.mp pm_okc_all ci (List.mem_range.mpr hl)
  unfold pm_okc at h1
  rw [h] at h1
  simp only [Bool.and_eq_true, decide_eq_true_eq] at h1
  obtain ⟨⟨⟨h2, h3⟩, h4⟩, h5⟩ := h1
  refine ⟨fun w hw => ?_, fun k hk => ?_, fun a ha b hb hab => ?_, fun k hk => ?_, h4⟩
  · have := List.all_eq_true.mp h2 w hw
    simp only [Bool.and_eq_true, decide_eq_true_eq] at this
    exact List.mem_filter.mpr this
  · have := List.all_eq_true.mp h3 k (List.mem_range.mpr hk)
    simp only [Bool.and_eq_true, decide_eq_true_eq] at this
    exact this.1
  · have := List.all_eq_true.mp (List.all_eq_true.mp h5 a (List.mem_range.mpr ha)) b (List.mem_range.mpr hb)
    simp only [Bool.or_eq_true, decide_eq_true_eq, Bool.not_eq_true', decide_eq_false_iff_not] at this
    exact this.resolve_left hab
  · have := List.all_eq_true.mp h3 k (List.mem_range.mpr hk)
    simp only [Bool.and_eq_true, decide_eq_true_eq] at this
    exact this.2
-- fields
def pm_okf (o k : Nat) : Bool := match pm_qfl o k with
  | none => true
  | some (ci, f, p) => match pm_cls[ci]? with
    | none => false
    | some (_, T, N) => Nat.blt f N && decide (lw_tbl[p]? = some (.fieldLink (pm_os o) k (T f).1 (T f).2.1 (T f).2.2.1))
theorem pm_okf_all : (List.range pm_nO).all (fun o => (List.range pm_nK).all (pm_okf o)) = true := by decide +kernel
def pm_okg (o k : Nat) : Bool := match pm_qfp o k with
  | none => true
  | some (ci, f, p) => match pm_cls[ci]? with
    | none => false
    | some (_, T, N) => Nat.blt f N && decide (lw_tbl[p]? = some (.fieldLink (pm_os o) k (T f).1 (T f).2.1 (T f).2.2.1)) && (!(T f).2.2.2 || decide ((T f).1 = pm_os o))
theorem pm_okg_all : (List.range pm_nO).all (fun o => (List.range pm_nK).all (pm_okg o)) = true := by decide +kernel
theorem pm_V_f {j k ci f : Nat} (h : pm_fl j k = some (ci, f)) : ∃ C T N, pm_cls[ci]? = some (C, T, N) ∧ f < N ∧ (∀ w ∈ u_ws C T N, w ∈ pm_ws) ∧ (∀ k, k < N → parseFieldDescriptor (T k).2.2.1 = some (pm_ft ci k)) ∧ (∀ a, a < N → ∀ b, b < N → a ≠ b → (T a).2.1 ≠ (T b).2.1) ∧
    (Cond.fieldLink (pm_ow j) k (T f).1 (T f).2.1 (T f).2.2.1 ∈ pm_ws ∨ ∃ host, Cond.fieldLinkNest (pm_ow j) k (T f).1 (T f).2.1 (T f).2.2.1 host ∈ pm_nws) := by
  unfold pm_fl at h
  obtain ⟨⟨c0, f0, p⟩, hq, he⟩ := Option.map_eq_some_iff.mp h
  cases he
  obtain ⟨g1, g2⟩ := pm_gd hq
  have h1 := pm_all2 pm_okf_all g1 g2
  unfold pm_okf at h1
  rw [hq] at h1
  dsimp only at h1
  split at h1
  · cases h1
  · rename_i C T N hc
    simp only [Bool.and_eq_true, decide_eq_true_eq, Nat.blt_eq] at h1
    obtain ⟨c1, c2, c3, -⟩ := pm_V_cl hc
    exact ⟨C, T, N, hc, h1.1, c1, c2, c3, Or.inl (pm_inw h1.2 rfl)⟩
theorem pm_V_p {j k ci f : Nat} (h : pm_fp j k = some (ci, f)) : ∃ C T N, pm_cls[ci]? = some (C, T, N) ∧ f < N ∧ (∀ w ∈ u_ws C T N, w ∈ pm_ws) ∧ (∀ k, k < N → parseFieldDescriptor (T k).2.2.1 = some (pm_ft ci k)) ∧ (∀ a, a < N → ∀ b, b < N → a ≠ b → (T a).2.1 ≠ (T b).2.1) ∧
    ((Cond.fieldLink (pm_ow j) k (T f).1 (T f).2.1 (T f).2.2.1 ∈ pm_ws ∧ ((T f).2.2.2 = false ∨ ((T f).2.2.2 = true ∧ pm_kd j = 2 ∧ (T f).1 = pm_ow j))) ∨ ((T f).2.2.2 = false ∧ ∃ host, Cond.fieldLinkNest (pm_ow j) k (T f).1 (T f).2.1 (T f).2.2.1 host ∈ pm_nws)) := by
  unfold pm_fp at h
  split at h
  · rename_i q hq
    obtain ⟨c0, f0, p⟩ := q
    dsimp only at h
    split at h
    · rename_i r hr
      obtain ⟨C, T, N⟩ := r
      dsimp only at h
      cases hb : (!(T f0).2.2.2 || Nat.beq (pm_kd j) 2) with
      | false => rw [hb] at h; cases h
      | true =>
        rw [hb] at h
        cases h
        obtain ⟨g1, g2⟩ := pm_gd hq
        have h1 := pm_all2 pm_okg_all g1 g2
        unfold pm_okg at h1
        rw [hq] at h1
        dsimp only at h1
        rw [hr] at h1
        simp only [Bool.and_eq_true, Bool.or_eq_true, decide_eq_true_eq, Nat.blt_eq, Bool.not_eq_true'] at h1
        obtain ⟨⟨h2, h3⟩, h4⟩ := h1
        obtain ⟨c1, c2, c3, -⟩ := pm_V_cl hr
        refine ⟨C, T, N, hr, h2, c1, c2, c3, Or.inl ⟨pm_inw h3 rfl, ?_⟩⟩
        cases hf : (T f).2.2.2 with
        | false => exact Or.inl rfl
        | true =>
          rw [hf] at hb h4
          simp only [Bool.not_true, Bool.false_or] at hb
          exact Or.inr ⟨rfl, Nat.eq_of_beq_eq_true hb, h4.resolve_left (by decide)⟩
    · cases h
  · cases h
-- constants
def pm_okk (o k : Nat) : Bool := match pm_qkc o k with
  | some (.int v, p) => decide (lw_tbl[p]? = some (.constant (pm_os o) k v))
  | some (.long v, p) => decide (lw_tbl[p]? = some (.constantLong (pm_os o) k v))
  | _ => true
theorem pm_okk_all : (List.range pm_nO).all (fun o => (List.range pm_nK).all (pm_okk o)) = true := by decide +kernel
theorem pm_V_ki {j k : Nat} {v : Int32} (h : pm_kc j k = some (.int v)) : Cond.constant (pm_ow j) k v ∈ pm_ws := by
  obtain ⟨⟨v0, p⟩, hq, he⟩ := Option.map_eq_some_iff.mp h
  cases he
  obtain ⟨g1, g2⟩ := pm_gd hq
  have h1 := pm_all2 pm_okk_all g1 g2
  unfold pm_okk at h1
  rw [hq] at h1
  exact pm_inw (of_decide_eq_true h1) rfl
theorem pm_V_kl {j k : Nat} {v : Int64} (h : pm_kc j k = some (.long v)) : Cond.constantLong (pm_ow j) k v ∈ pm_ws := by
  obtain ⟨⟨v0, p⟩, hq, he⟩ := Option.map_eq_some_iff.mp h
  cases he
  obtain ⟨g1, g2⟩ := pm_gd hq
  have h1 := pm_all2 pm_okk_all g1 g2
  unfold pm_okk at h1
  rw [hq] at h1
  exact pm_inw (of_decide_eq_true h1) rfl
-- new objects and arrays
def pm_okn (o k : Nat) : Bool := match pm_qnw o k with
  | none => true
  | some (ci, p) => match pm_cls[ci]? with
    | none => false
    | some (C, _, N) => decide (lw_tbl[p]? = some (.classLink (pm_os o) k C)) && decide (Cond.instantiable C N ∈ lw_tbl) && decide (Cond.initialized C ∈ lw_tbl)
theorem pm_okn_all : (List.range pm_nO).all (fun o => (List.range pm_nK).all (pm_okn o)) = true := by decide +kernel
theorem pm_inm {w : Cond} (h : w ∈ lw_tbl) (g : goodWord w = true) : w ∈ pm_ws := List.mem_filter.mpr ⟨h, g⟩
theorem pm_V_n {j k ci : Nat} (h : pm_nw j k = some ci) : ∃ C T N, pm_cls[ci]? = some (C, T, N) ∧ (∀ w ∈ u_ws C T N, w ∈ pm_ws) ∧ (∀ k, k < N → parseFieldDescriptor (T k).2.2.1 = some (pm_ft ci k)) ∧ Cond.classLink (pm_ow j) k C ∈ pm_ws ∧ Cond.instantiable C N ∈ pm_ws ∧ Cond.initialized C ∈ pm_ws ∧ (∀ k, k < N → defaultValue (pm_ft ci k) = vp_V (pm_cf ci) k) ∧ (pm_cf ci).length = N := by
  obtain ⟨⟨c0, p⟩, hq, he⟩ := Option.map_eq_some_iff.mp h
  cases he
  obtain ⟨g1, g2⟩ := pm_gd hq
  have h1 := pm_all2 pm_okn_all g1 g2
  unfold pm_okn at h1
  rw [hq] at h1
  dsimp only at h1
  split at h1
  · cases h1
  · rename_i C T N hc
    simp only [Bool.and_eq_true, decide_eq_true_eq] at h1
    obtain ⟨⟨h2, h3⟩, h4⟩ := h1
    obtain ⟨c1, c2, -, c4, c5⟩ := pm_V_cl hc
    exact ⟨C, T, N, hc, c1, c2, pm_inw h2 rfl, pm_inm h3 rfl, pm_inm h4 rfl, c4, c5⟩
theorem pm_V_a0 : Cond.arrayClass .int ∈ lw_tbl ∧ Cond.arrayClass .long ∈ lw_tbl ∧ Cond.arrayClass .char ∈ lw_tbl ∧ Cond.arrayClass .boolean ∈ lw_tbl := by decide +kernel
def pm_oka (o k : Nat) : Bool := match pm_qan o k with
  | none => true
  | some (t, p) => decide (lw_tbl[p]? = some (.classLink (pm_os o) k (pm_oc t)))
theorem pm_oka_all : (List.range pm_nO).all (fun o => (List.range pm_nK).all (pm_oka o)) = true := by decide +kernel
theorem pm_V_q {j k t : Nat} (h : pm_an j k = some t) : Cond.classLink (pm_ow j) k (pm_oc t) ∈ pm_ws := by
  obtain ⟨⟨t0, p⟩, hq, he⟩ := Option.map_eq_some_iff.mp h
  cases he
  obtain ⟨g1, g2⟩ := pm_gd hq
  have h1 := pm_all2 pm_oka_all g1 g2
  unfold pm_oka at h1
  rw [hq] at h1
  exact pm_inw (of_decide_eq_true h1) rfl
theorem pm_V_o {k : Nat} {r : vw_C} (h : pm_cls[pm_oci k]? = some r) : pm_oc k = r.1 := by
  match k, h with
  | 0, h => cases h; rfl
  | k + 1, h => cases h; rfl
-- Object's constructor
def pm_oko (o k : Nat) : Bool := match pm_qob o k with
  | none => true
  | some p => decide (lw_tbl[p]? = some (.methodLink (pm_os o) k objectInit))
theorem pm_oko_all : (List.range pm_nO).all (fun o => (List.range pm_nK).all (pm_oko o)) = true := by decide +kernel
theorem pm_V_ob0 : Cond.instanceMethod objectInit ∈ lw_tbl := by decide +kernel
theorem pm_V_ob1 : lw_tbl[70]? = some (Cond.code objectInit ⟨#[0xb1]⟩ 1 none) := by first | rfl | decide +kernel
theorem pm_V_ob {j k : Nat} (h : pm_ob j k = true) : Cond.methodLink (pm_ow j) k objectInit ∈ pm_ws ∧ Cond.instanceMethod objectInit ∈ pm_ws ∧ Cond.code objectInit ⟨#[0xb1]⟩ 1 none ∈ pm_ws := by
  obtain ⟨p, hq⟩ := Option.isSome_iff_exists.mp h
  obtain ⟨g1, g2⟩ := pm_gd hq
  have h1 := pm_all2 pm_oko_all g1 g2
  unfold pm_oko at h1
  rw [hq] at h1
  exact ⟨pm_inw (of_decide_eq_true h1) rfl, pm_inm pm_V_ob0 rfl, pm_inw pm_V_ob1 rfl⟩
-- Math's
def pm_mx (t : Nat) : MethodName := match t with
  | 0 => Lib.Math.abs.name
  | 1 => Lib.MathLoose.abs_long.x
  | 2 => Lib.Math.max.name
  | _ => Lib.Math.min.name
def pm_okt (o k : Nat) : Bool := match pm_qmt o k with
  | none => true
  | some (t, p) => Nat.ble t 3 && decide (lw_tbl[p]? = some (.methodLink (pm_os o) k (pm_mx t)))
theorem pm_okt_all : (List.range pm_nO).all (fun o => (List.range pm_nK).all (pm_okt o)) = true := by decide +kernel
theorem pm_V_mt {j k t : Nat} (h : pm_mt j k = some t) : t ≤ 3 ∧ Cond.methodLink (pm_ow j) k (pm_mx t) ∈ pm_ws := by
  obtain ⟨⟨t0, p⟩, hq, he⟩ := Option.map_eq_some_iff.mp h
  cases he
  obtain ⟨g1, g2⟩ := pm_gd hq
  have h1 := pm_all2 pm_okt_all g1 g2
  unfold pm_okt at h1
  rw [hq] at h1
  simp only [Bool.and_eq_true, decide_eq_true_eq] at h1
  exact ⟨Nat.le_of_ble_eq_true h1.1, pm_inw h1.2 rfl⟩
theorem pm_V_mw : (Cond.static Lib.Math.abs.name ∈ lw_tbl ∧ Cond.static Lib.MathLoose.abs_long.x ∈ lw_tbl ∧ Cond.static Lib.Math.max.name ∈ lw_tbl ∧ Cond.static Lib.Math.min.name ∈ lw_tbl) ∧ Cond.initialized "java/lang/Math" ∈ lw_tbl ∧
    (Cond.code Lib.Math.abs.name Lib.Math.abs.code 1 (some .int) ∈ lw_tbl ∧ Cond.code Lib.MathLoose.abs_long.x Lib.MathLoose.abs_long.code 2 (some .long) ∈ lw_tbl ∧ Cond.code Lib.Math.max.name Lib.Math.max.code 2 (some .int) ∈ lw_tbl ∧ Cond.code Lib.Math.min.name Lib.Math.min.code 2 (some .int) ∈ lw_tbl) := by decide +kernel
-- methods
def pm_okw (y : Nat) : Bool := Jvm.plainName (pm_nm y).cls && (!Nat.beq (pm_kd y) 2 || decide ((pm_nm y).name = "<init>")) && decide (lw_tbl[(pm_ps y).1]? = some (.code (pm_nm y) (pm_by y) (pm_ml y) (pm_rty y))) && decide (lw_tbl[(pm_ps y).2.1]? = some (.initialized (pm_nm y).cls)) &&
  (cond (Nat.beq (pm_kd y) 0) (decide (lw_tbl[(pm_ps y).2.2.1]? = some (.static (pm_nm y))) && decide ((parseMethodDescriptor (pm_nm y).desc).map (fun d => d.parameters.length) = some (pm_na y)))
    (decide (lw_tbl[(pm_ps y).2.2.1]? = some (.instanceMethod (pm_nm y))) && decide ((parseMethodDescriptor (pm_nm y).desc).map (fun d => d.parameters.length) = some (pm_na y - 1)) && (!Nat.beq (pm_kd y) 2 || decide (pm_rty y = none)) && (!Nat.beq (pm_kd y) 1 || (decide ((pm_cls[pm_ci y]?).map (fun r => r.1) = some (pm_nm y).cls) && decide (lw_tbl[(pm_ps y).2.2.2]? = some (.selects (pm_nm y).cls (pm_nm y) (pm_nm y))))))) &&
  decide ((pm_nm y).cls ≠ "java/lang/invoke/MethodHandle") && decide ((pm_nm y).cls ≠ "java/lang/invoke/VarHandle") && Nat.ble 24 (pm_loc y) && decide (pm_ow y = (pm_nm y).cls)
theorem pm_okw_0 : (List.range' 0 15).all pm_okw = true := by decide +kernel
theorem pm_okw_15 : (List.range' 15 15).all pm_okw = true := by decide +kernel
theorem pm_okw_30 : (List.range' 30 15).all pm_okw = true := by decide +kernel
theorem pm_okw_45 : (List.range' 45 15).all pm_okw = true := by decide +kernel
theorem pm_okw_60 : (List.range' 60 15).all pm_okw = true := by decide +kernel
theorem pm_okw_75 : (List.range' 75 15).all pm_okw = true := by decide +kernel
theorem pm_okw_90 : (List.range' 90 15).all pm_okw = true := by decide +kernel
theorem pm_okw_105 : (List.range' 105 15).all pm_okw = true := by decide +kernel
theorem pm_okw_120 : (List.range' 120 15).all pm_okw = true := by decide +kernel
theorem pm_okw_135 : (List.range' 135 11).all pm_okw = true := by decide +kernel
theorem pm_okw_all : ∀ y, y < 146 → pm_okw y = true := by
  intro y hy
  by_cases h0 : y < 15
  · exact pm_inr pm_okw_0 (by omega) (by omega)
  by_cases h15 : y < 30
  · exact pm_inr pm_okw_15 (by omega) (by omega)
  by_cases h30 : y < 45
  · exact pm_inr pm_okw_30 (by omega) (by omega)
  by_cases h45 : y < 60
  · exact pm_inr pm_okw_45 (by omega) (by omega)
  by_cases h60 : y < 75
  · exact pm_inr pm_okw_60 (by omega) (by omega)
  by_cases h75 : y < 90
  · exact pm_inr pm_okw_75 (by omega) (by omega)
  by_cases h90 : y < 105
  · exact pm_inr pm_okw_90 (by omega) (by omega)
  by_cases h105 : y < 120
  · exact pm_inr pm_okw_105 (by omega) (by omega)
  by_cases h120 : y < 135
  · exact pm_inr pm_okw_120 (by omega) (by omega)
  by_cases h135 : y < 146
  · exact pm_inr pm_okw_135 (by omega) (by omega)
  exact absurd hy (by omega)
set_option maxHeartbeats 1000000 in
theorem pm_V_m {y : Nat} (hy : pm_mok y = true) : Jvm.plainName (pm_nm y).cls = true ∧ (pm_kd y = 2 → (pm_nm y).name = "<init>") ∧ Cond.code (pm_nm y) (pm_by y) (pm_ml y) (pm_rty y) ∈ pm_ws ∧ Cond.initialized (pm_nm y).cls ∈ pm_ws ∧
    (pm_kd y = 0 → Cond.static (pm_nm y) ∈ pm_ws ∧ (parseMethodDescriptor (pm_nm y).desc).map (fun d => d.parameters.length) = some (pm_na y)) ∧ (pm_nm y).cls ≠ "java/lang/invoke/MethodHandle" ∧ (pm_nm y).cls ≠ "java/lang/invoke/VarHandle" ∧
    (¬ pm_kd y = 0 → Cond.instanceMethod (pm_nm y) ∈ pm_ws ∧ (parseMethodDescriptor (pm_nm y).desc).map (fun d => d.parameters.length) = some (pm_na y - 1) ∧ (pm_kd y = 2 → pm_rty y = none) ∧ (pm_kd y = 1 → ∃ q0 : vw_C, pm_cls[pm_ci y]? = some q0 ∧ Cond.selects q0.1 (pm_nm y) (pm_nm y) ∈ pm_ws)) ∧ 24 ≤ pm_loc y ∧ pm_ow y = (pm_nm y).cls := by
  have h := pm_okw_all y (Nat.lt_succ_of_le (Nat.le_of_ble_eq_true hy))
  unfold pm_okw at h
  simp only [Bool.and_eq_true, Bool.or_eq_true, decide_eq_true_eq, Bool.not_eq_true', Nat.ble_eq] at h
  obtain ⟨⟨⟨⟨⟨⟨⟨⟨h1, h2⟩, h3⟩, h4⟩, h5⟩, h6⟩, h7⟩, h8⟩, h9⟩ := h
  refine ⟨h1, fun hk => ?_, pm_inw h3 rfl, pm_inw h4 rfl, fun hk => ?_, h6, h7, fun hk => ?_, h8, h9⟩
  · refine h2.resolve_left (fun q => ?_)
    rw [hk] at q; cases q
  · rw [hk] at h5
    simp only [show Nat.beq 0 0 = true from rfl, cond_true, Bool.and_eq_true, decide_eq_true_eq] at h5
    exact ⟨pm_inw h5.1 rfl, h5.2⟩
  · have hb : Nat.beq (pm_kd y) 0 = false := by
      cases hq : Nat.beq (pm_kd y) 0 with
      | false => rfl
      | true => exact absurd (Nat.eq_of_beq_eq_true hq) hk
    rw [hb] at h5
    simp only [cond_false, Bool.and_eq_true, Bool.or_eq_true, decide_eq_true_eq, Bool.not_eq_true'] at h5
    obtain ⟨⟨⟨a1, a2⟩, a3⟩, a4⟩ := h5
    refine ⟨pm_inw a1 rfl, a2, fun hk2 => ?_, fun hk1 => ?_⟩
    · refine a3.resolve_left (fun q => ?_)
      rw [hk2] at q; cases q
    · obtain ⟨b1, b2⟩ := a4.resolve_left (fun q => by rw [hk1] at q; cases q)
      obtain ⟨q0, c1, c2⟩ := Option.map_eq_some_iff.mp b1
      exact ⟨q0, c1, by rw [c2]; exact pm_inw b2 rfl⟩
-- links of calls
def pm_oki (o k : Nat) : Bool := match pm_qiv o k with
  | none => true
  | some (y, p, none) => pm_mok y && decide (lw_tbl[p]? = some (.methodLink (pm_os o) k (pm_nm y)))
  | some (y, p, some host) => pm_mok y && decide (lw_tbl[p]? = some (.methodLinkNest (pm_os o) k (pm_nm y) host))
theorem pm_oki_all : (List.range pm_nO).all (fun o => (List.range pm_nK).all (pm_oki o)) = true := by decide +kernel
theorem pm_V_i {j k y : Nat} (h : pm_iv j k = some y) : Cond.methodLink (pm_ow j) k (pm_nm y) ∈ pm_ws ∨ ∃ host, Cond.methodLinkNest (pm_ow j) k (pm_nm y) host ∈ pm_nws := by
  obtain ⟨⟨y0, p, host⟩, hq, he⟩ := Option.map_eq_some_iff.mp h
  cases he
  obtain ⟨g1, g2⟩ := pm_gd hq
  have h1 := pm_all2 pm_oki_all g1 g2
  unfold pm_oki at h1
  rw [hq] at h1
  cases host with
  | none =>
    simp only [Bool.and_eq_true, decide_eq_true_eq] at h1
    exact Or.inl (pm_inw h1.2 rfl)
  | some host =>
    simp only [Bool.and_eq_true, decide_eq_true_eq] at h1
    exact Or.inr ⟨host, pm_inn h1.2 rfl⟩
theorem pm_V_iv {j k y : Nat} (h : pm_iv j k = some y) : pm_mok y = true := by
  obtain ⟨⟨y0, p, host⟩, hq, he⟩ := Option.map_eq_some_iff.mp h
  cases he
  obtain ⟨g1, g2⟩ := pm_gd hq
  have h1 := pm_all2 pm_oki_all g1 g2
  unfold pm_oki at h1
  rw [hq] at h1
  cases host with
  | none =>
    simp only [Bool.and_eq_true, decide_eq_true_eq] at h1
    exact h1.1
  | some host =>
    simp only [Bool.and_eq_true, decide_eq_true_eq] at h1
    exact h1.1
