section JM
abbrev iS : Type := (Nat → Nat → Int) × (Nat → List Int) × Bool × Bool × Bool × Int64
def jI (S : iS) (a f : Nat) : Int := S.1 a f
def jA (S : iS) (a : Nat) : List Int := S.2.1 a
def jP0 (S : iS) : Bool := S.2.2.1
def jP1 (S : iS) : Bool := S.2.2.2.1
def jP2 (S : iS) : Bool := S.2.2.2.2.1
def jO (S : iS) : Int64 := S.2.2.2.2.2
def kI (S : iS) (a f : Nat) (v : Int) : iS := (fun a' f' => if a' = a ∧ f' = f then v else S.1 a' f', S.2)
def kA (S : iS) (a : Nat) (l : List Int) : iS := (S.1, fun a' => if a' = a then l else S.2.1 a', S.2.2)
def kP0 (S : iS) (b : Bool) : iS := (S.1, S.2.1, b, S.2.2.2.1, S.2.2.2.2)
def kP1 (S : iS) (b : Bool) : iS := (S.1, S.2.1, S.2.2.1, b, S.2.2.2.2)
def kP2 (S : iS) (b : Bool) : iS := (S.1, S.2.1, S.2.2.1, S.2.2.2.1, b, S.2.2.2.2.2)
def kO (S : iS) (o : Int64) : iS := (S.1, S.2.1, S.2.2.1, S.2.2.2.1, S.2.2.2.2.1, o)
abbrev rg (x : Int) : Prop := -2147483648 ≤ x ∧ x < 2147483648
/-- the state of Ints tells the state of Int32s -/
def sr (S : iS) (s : fS) : Prop := (∀ a f, (gI s a f).toInt = jI S a f) ∧ (∀ a, (gA s a).map Int32.toInt = jA S a) ∧ gP0 s = jP0 S ∧ gP1 s = jP1 S ∧ gP2 s = jP2 S ∧ gO s = jO S
def rV (r : iS) (r' : fS) : Prop := sr r r'
def rI (r : Int × iS) (r' : Int32 × fS) : Prop := r'.1.toInt = r.1 ∧ sr r.2 r'.2
def rX (r : (Int ⊕ String) × iS) (r' : (Int32 ⊕ String) × fS) : Prop := r.1 = Sum.map Int32.toInt id r'.1 ∧ sr r.2 r'.2
/-- where the program of Ints comes to its end, the program of Int32s does, alike -/
def rf {β α : Type} (R : β → α → Prop) (og : Option β) (o : Option α) : Prop := ∀ r, og = some r → ∃ r', o = some r' ∧ R r r'
theorem rf_none {β α : Type} {R : β → α → Prop} {o : Option α} : rf R none o := fun r h => by cases h
theorem rf_some {β α : Type} {R : β → α → Prop} {r : β} {r' : α} (h : R r r') : rf R (some r) (some r') := fun q hq => by cases hq; exact ⟨r', rfl, h⟩
theorem rf_rg {β α : Type} {R : β → α → Prop} {c : Prop} [Decidable c] {og : Option β} {o : Option α} (k : c → rf R og o) : rf R (if c then og else none) o := by
  by_cases h : c
  · rw [if_pos h]; exact k h
  · rw [if_neg h]; exact rf_none
theorem rf_ck {β α : Type} {R : β → α → Prop} {d : Bool} {og : Option β} {o : Option α} (h : d = true) (k : rf R og o) : rf R og (fchk d o) := by
  subst h; exact k
theorem rf_if {β α : Type} {R : β → α → Prop} {c d : Prop} [Decidable c] [Decidable d] {og og' : Option β} {o o' : Option α} (h : c ↔ d) (k : rf R og o) (k' : rf R og' o') : rf R (if c then og else og') (bif decide d then o else o') := by
  by_cases hc : c
  · rw [if_pos hc, decide_eq_true (h.mp hc)]; exact k
  · rw [if_neg hc, decide_eq_false (fun q => hc (h.mpr q))]; exact k'
theorem rf_bind {β α β' α' : Type} {R : β → α → Prop} {R' : β' → α' → Prop} {og : Option β} {o : Option α} {G : β → Option β'} {K : α → Option α'} (k : rf R og o) (k' : ∀ q Q, R q Q → rf R' (G q) (K Q)) : rf R' (og.bind G) (o.bind K) := by
  intro r hr
  cases hg : og with
  | none => rw [hg] at hr; cases hr
  | some q =>
    rw [hg, Option.bind_some] at hr
    obtain ⟨Q, hQ, hR⟩ := k q hg
    rw [hQ, Option.bind_some]
    exact k' q Q hR r hr
def jbx (oc : Option ((Int ⊕ String) × iS)) (G : Int × iS → Option ((Int ⊕ String) × iS)) : Option ((Int ⊕ String) × iS) := oc.bind fun q => match q.1 with
  | .inl v => G (v, q.2)
  | .inr E => some (.inr E, q.2)
theorem rf_bx {og : Option ((Int ⊕ String) × iS)} {o : Option ((Int32 ⊕ String) × fS)} {G : Int × iS → Option ((Int ⊕ String) × iS)} {K : Int32 × fS → Option ((Int32 ⊕ String) × fS)} (k : rf rX og o) (k' : ∀ q Q, rI q Q → rf rX (G q) (K Q)) : rf rX (jbx og G) (fbx o K) := by
  refine rf_bind k fun q Q h => ?_
  obtain ⟨q1, q2⟩ := q
  obtain ⟨Q1, Q2⟩ := Q
  obtain ⟨h1, h2⟩ := h
  cases Q1 with
  | inl v => cases h1; exact k' _ _ ⟨rfl, h2⟩
  | inr E => cases h1; exact rf_some ⟨rfl, h2⟩
theorem x_inl {X : Int32} {x : Int} (h : X.toInt = x) : (.inl x : Int ⊕ String) = Sum.map Int32.toInt id (.inl X) := by subst h; rfl
theorem e_add {A a k : Nat} (h : A = a) : A + k = a + k := by rw [h]
theorem e_gad {B b : Bool} (h : B = b) : gadr B = gadr b := by rw [h]
theorem e_sgn {A a : Nat} (h : A = a) : sgn A = sgn a := by rw [h]
theorem sr_gI {S : iS} {s : fS} {A a f : Nat} (h : sr S s) (e : A = a) : (gI s A f).toInt = jI S a f := by subst e; exact h.1 A f
theorem sr_gA {S : iS} {s : fS} {A a : Nat} (h : sr S s) (e : A = a) : (gA s A).map Int32.toInt = jA S a := by subst e; exact h.2.1 A
theorem sr_gP0 {S : iS} {s : fS} (h : sr S s) : gP0 s = jP0 S := h.2.2.1
theorem sr_gP1 {S : iS} {s : fS} (h : sr S s) : gP1 s = jP1 S := h.2.2.2.1
theorem sr_gP2 {S : iS} {s : fS} (h : sr S s) : gP2 s = jP2 S := h.2.2.2.2.1
theorem sr_gO {S : iS} {s : fS} (h : sr S s) : gO s = jO S := h.2.2.2.2.2
theorem sr_I {S : iS} {s : fS} {A a f : Nat} {X : Int32} {x : Int} (h : sr S s) (e : A = a) (hx : X.toInt = x) : sr (kI S a f x) (sI s A f X) := by
  subst e hx
  refine ⟨fun a' f' => ?_, h.2.1, h.2.2⟩
  show (bif Nat.beq f' f && Nat.beq a' A then X else s.1 a' f').toInt = (if a' = A ∧ f' = f then X.toInt else S.1 a' f')
  by_cases h1 : f' = f
  · by_cases h2 : a' = A
    · subst h1 h2; rw [if_pos ⟨rfl, rfl⟩, Nat.beq_refl, Nat.beq_refl]; rfl
    · have e2 : Nat.beq a' A = false := by
        cases hb : Nat.beq a' A with
        | false => rfl
        | true => exact absurd (Nat.eq_of_beq_eq_true hb) h2
      rw [if_neg (fun q => h2 q.1), e2, Bool.and_false]; exact h.1 a' f'
  · have e1 : Nat.beq f' f = false := by
      cases hb : Nat.beq f' f with
      | false => rfl
      | true => exact absurd (Nat.eq_of_beq_eq_true hb) h1
    rw [if_neg (fun q => h1 q.2), e1, Bool.false_and]; exact h.1 a' f'
theorem sr_A {S : iS} {s : fS} {A a : Nat} {L : List Int32} {l : List Int} (h : sr S s) (e : A = a) (hl : L.map Int32.toInt = l) : sr (kA S a l) (sA s A L) := by
  subst e hl
  refine ⟨h.1, fun a' => ?_, h.2.2⟩
  show (bif Nat.beq a' A then L else s.2.1 a').map Int32.toInt = (if a' = A then L.map Int32.toInt else S.2.1 a')
  by_cases h2 : a' = A
  · subst h2; rw [if_pos rfl, Nat.beq_refl]; rfl
  · have e2 : Nat.beq a' A = false := by
      cases hb : Nat.beq a' A with
      | false => rfl
      | true => exact absurd (Nat.eq_of_beq_eq_true hb) h2
    rw [if_neg h2, e2]; exact h.2.1 a'
theorem sr_P0 {S : iS} {s : fS} {B b : Bool} (h : sr S s) (e : B = b) : sr (kP0 S b) (sP0 s B) := ⟨h.1, h.2.1, e, h.2.2.2⟩
theorem sr_P1 {S : iS} {s : fS} {B b : Bool} (h : sr S s) (e : B = b) : sr (kP1 S b) (sP1 s B) := ⟨h.1, h.2.1, h.2.2.1, e, h.2.2.2.2⟩
theorem sr_P2 {S : iS} {s : fS} {B b : Bool} (h : sr S s) (e : B = b) : sr (kP2 S b) (sP2 s B) := ⟨h.1, h.2.1, h.2.2.1, h.2.2.2.1, e, h.2.2.2.2.2⟩
theorem sr_O {S : iS} {s : fS} {o : Int64} (h : sr S s) : sr (kO S o) (sO s o) := ⟨h.1, h.2.1, h.2.2.1, h.2.2.2.1, h.2.2.2.2.1, rfl⟩
theorem l_set {L : List Int32} {l : List Int} {I i : Nat} {X : Int32} {x : Int} (h : L.map Int32.toInt = l) (hi : I = i) (hx : X.toInt = x) : (L.set I X).map Int32.toInt = l.set i x := by
  subst h hi hx; rw [List.map_set]
theorem l_getD {L : List Int32} {l : List Int} {I i : Nat} (h : L.map Int32.toInt = l) (hi : I = i) : (L.getD I 0).toInt = l.getD i 0 := by
  subst h hi
  rw [List.getD_eq_getElem?_getD, List.getD_eq_getElem?_getD, List.getElem?_map]
  cases L[I]? <;> rfl
theorem l_len {L : List Int32} {l : List Int} (h : L.map Int32.toInt = l) : L.length = l.length := by subst h; rw [List.length_map]
theorem i_nat {X : Int32} {x : Int} (h : X.toInt = x) : X.toNatClampNeg = x.toNat := by subst h; rfl
theorem i_len {L : List Int32} {l : List Int} (h : L.map Int32.toInt = l) (hl : l.length < 2147483648) : (Int32.ofNat L.length).toInt = (l.length : Int) := by
  rw [l_len h]; exact Int32.toInt_ofNat_of_lt hl
theorem i_add {X Y : Int32} {x y : Int} (h : X.toInt = x) (h' : Y.toInt = y) (r : rg (x + y)) : (X + Y).toInt = x + y := by
  subst h h'; rw [Int32.toInt_add]; exact Int.bmod_eq_of_le (by have := r.1; omega) (by have := r.2; omega)
theorem i_sub {X Y : Int32} {x y : Int} (h : X.toInt = x) (h' : Y.toInt = y) (r : rg (x - y)) : (X - Y).toInt = x - y := by
  subst h h'; rw [Int32.toInt_sub]; exact Int.bmod_eq_of_le (by have := r.1; omega) (by have := r.2; omega)
theorem i_mul {X Y : Int32} {x y : Int} (h : X.toInt = x) (h' : Y.toInt = y) (r : rg (x * y)) : (X * Y).toInt = x * y := by
  subst h h'; rw [Int32.toInt_mul]
  generalize X.toInt * Y.toInt = z at r
  exact Int.bmod_eq_of_le (by have := r.1; omega) (by have := r.2; omega)
theorem i_neg {X : Int32} {x : Int} (h : X.toInt = x) (r : rg (-x)) : (-X).toInt = -x := by
  subst h; rw [Int32.toInt_neg]; exact Int.bmod_eq_of_le (by have := r.1; omega) (by have := r.2; omega)
theorem i_div {X Y : Int32} {x y : Int} (h : X.toInt = x) (h' : Y.toInt = y) (r : 0 ≤ x ∧ 0 < y) : (X / Y).toInt = x / y := by
  subst h h'; rw [Int32.toInt_div, Int.tdiv_eq_ediv_of_nonneg r.1]
  have h1 := Int32.toInt_lt X
  have h2 : X.toInt / Y.toInt ≤ X.toInt := Int.ediv_le_self _ r.1
  have h3 : 0 ≤ X.toInt / Y.toInt := Int.ediv_nonneg r.1 (by omega)
  generalize X.toInt / Y.toInt = z at *
  exact Int.bmod_eq_of_le (by omega) (by omega)
theorem i_rem {X Y : Int32} {x y : Int} (h : X.toInt = x) (h' : Y.toInt = y) (r : 0 ≤ x ∧ 0 < y) : (mi_irem X Y).toInt = x % y := by
  subst h h'
  show (X - X / Y * Y).toInt = _
  rw [Int32.toInt_sub, Int32.toInt_mul, Int32.toInt_div, Int.bmod_mul_bmod, Int.sub_bmod_bmod, Int.mul_comm (X.toInt.tdiv Y.toInt), ← Int.tmod_def, ← Int32.toInt_mod]
  rw [Int32.toInt_mod, Int.tmod_eq_emod_of_nonneg r.1]
  have h1 := Int32.toInt_lt X
  have h2 : X.toInt % Y.toInt < Y.toInt := Int.emod_lt_of_pos _ r.2
  have h3 : 0 ≤ X.toInt % Y.toInt := Int.emod_nonneg _ (by omega)
  have h4 := Int32.toInt_lt Y
  generalize X.toInt % Y.toInt = z at *
  exact Int.bmod_eq_of_le (by omega) (by omega)
theorem i_ite {c d : Prop} [Decidable c] [Decidable d] {X Y : Int32} {x y : Int} (h : c ↔ d) (hx : X.toInt = x) (hy : Y.toInt = y) : (if d then X else Y).toInt = (if c then x else y) := by
  by_cases hc : c
  · rw [if_pos hc, if_pos (h.mp hc), hx]
  · rw [if_neg hc, if_neg (fun q => hc (h.mpr q)), hy]
def byC (j : Int64) (k : Int) : Int := ((((mi_ushr j ((8 : Int32) * Int32.ofInt k)) &&& (255 : Int64))).toInt32).toInt
def byM (j : Int64) (k : Int) : Int := ((((mi_sshr j ((8 : Int32) * Int32.ofInt k))).toInt32) &&& (255 : Int32)).toInt
theorem i_byC {J j : Int64} {L : Int32} {l : Int} (h : J = j) (hl : L.toInt = l) : ((((mi_ushr J ((8 : Int32) * L)) &&& (255 : Int64))).toInt32).toInt = byC j l := by
  subst h hl; unfold byC; rw [Int32.ofInt_toInt]
theorem i_byM {J j : Int64} {L : Int32} {l : Int} (h : J = j) (hl : L.toInt = l) : ((((mi_sshr J ((8 : Int32) * L))).toInt32) &&& (255 : Int32)).toInt = byM j l := by
  subst h hl; unfold byM; rw [Int32.ofInt_toInt]
theorem c_not {c d : Prop} (h : c ↔ d) : ¬ c ↔ ¬ d := not_congr h
theorem c_eq {X Y : Int32} {x y : Int} (h : X.toInt = x) (h' : Y.toInt = y) : x = y ↔ X = Y := by subst h h'; exact Int32.toInt_inj
theorem c_lt {X Y : Int32} {x y : Int} (h : X.toInt = x) (h' : Y.toInt = y) : x < y ↔ X < Y := by subst h h'; exact Int32.lt_iff_toInt_lt.symm
theorem c_le {X Y : Int32} {x y : Int} (h : X.toInt = x) (h' : Y.toInt = y) : x ≤ y ↔ X ≤ Y := by subst h h'; exact Int32.le_iff_toInt_le.symm
theorem c_ti {X : Int32} {x k : Int} (h : X.toInt = x) : x = k ↔ X.toInt = k := by rw [h]
theorem k_in {X : Int32} {x : Int} {L : List Int32} {l : List Int} (h : X.toInt = x) (hl : L.map Int32.toInt = l) (r : 0 ≤ x ∧ x < l.length) : mi_in X L.length = true := by
  subst h
  unfold mi_in
  rw [l_len hl, Bool.and_eq_true]
  refine ⟨decide_eq_true (Int32.le_iff_toInt_le.mpr r.1), decide_eq_true ?_⟩
  have : X.toNatClampNeg = X.toInt.toNat := rfl
  omega
theorem k_inl {X : Int32} {x : Int} {k : Nat} {L : List Int32} {l : List Int} (hk : X.toNatClampNeg = k) (h : X.toInt = x) (hl : L.map Int32.toInt = l) (r : k < l.length) (h0 : 0 ≤ x := by decide) : mi_in X L.length = true := by
  refine k_in h hl ⟨h0, ?_⟩
  have : X.toNatClampNeg = X.toInt.toNat := rfl
  omega
theorem k_fbl {X : Int32} {x : Int} (h : X.toInt = x) (r : x = 0 ∨ x = 1) : fbl X = true := by
  subst h
  refine decide_eq_true ?_
  rcases r with r | r
  · exact .inl (Int32.toInt_inj.mp r)
  · exact .inr (Int32.toInt_inj.mp r)
theorem k_fit {X : Int32} {x : Int} (h : X.toInt = x) (r : x = 0 ∨ x = 1) : fits .boolean (.int X) = true := by
  subst h
  rcases r with r | r
  · rw [show X = 0 from Int32.toInt_inj.mp r]; rfl
  · rw [show X = 1 from Int32.toInt_inj.mp r]; rfl
theorem k_dec {c d : Prop} [Decidable d] (h : c ↔ d) (r : c) : decide d = true := decide_eq_true (h.mp r)
end JM
theorem li_m104 : (-104 : Int32).toInt = -104 := by decide
theorem li_m103 : (-103 : Int32).toInt = -103 := by decide
theorem li_m102 : (-102 : Int32).toInt = -102 := by decide
theorem li_m101 : (-101 : Int32).toInt = -101 := by decide
theorem li_m10 : (-10 : Int32).toInt = -10 := by decide
theorem li_m1 : (-1 : Int32).toInt = -1 := by decide
theorem li_0 : (0 : Int32).toInt = 0 := by decide
theorem li_1 : (1 : Int32).toInt = 1 := by decide
theorem li_2 : (2 : Int32).toInt = 2 := by decide
theorem li_3 : (3 : Int32).toInt = 3 := by decide
theorem li_4 : (4 : Int32).toInt = 4 := by decide
theorem li_5 : (5 : Int32).toInt = 5 := by decide
theorem li_6 : (6 : Int32).toInt = 6 := by decide
theorem li_7 : (7 : Int32).toInt = 7 := by decide
theorem li_8 : (8 : Int32).toInt = 8 := by decide
theorem li_9 : (9 : Int32).toInt = 9 := by decide
theorem li_10 : (10 : Int32).toInt = 10 := by decide
theorem li_20 : (20 : Int32).toInt = 20 := by decide
theorem li_21 : (21 : Int32).toInt = 21 := by decide
theorem li_27 : (27 : Int32).toInt = 27 := by decide
theorem li_30 : (30 : Int32).toInt = 30 := by decide
theorem li_32 : (32 : Int32).toInt = 32 := by decide
theorem li_33 : (33 : Int32).toInt = 33 := by decide
theorem li_34 : (34 : Int32).toInt = 34 := by decide
theorem li_35 : (35 : Int32).toInt = 35 := by decide
theorem li_37 : (37 : Int32).toInt = 37 := by decide
theorem li_40 : (40 : Int32).toInt = 40 := by decide
theorem li_45 : (45 : Int32).toInt = 45 := by decide
theorem li_46 : (46 : Int32).toInt = 46 := by decide
theorem li_48 : (48 : Int32).toInt = 48 := by decide
theorem li_57 : (57 : Int32).toInt = 57 := by decide
theorem li_92 : (92 : Int32).toInt = 92 := by decide
theorem li_95 : (95 : Int32).toInt = 95 := by decide
theorem li_97 : (97 : Int32).toInt = 97 := by decide
theorem li_100 : (100 : Int32).toInt = 100 := by decide
theorem li_103 : (103 : Int32).toInt = 103 := by decide
theorem li_116 : (116 : Int32).toInt = 116 := by decide
theorem li_119 : (119 : Int32).toInt = 119 := by decide
theorem li_120 : (120 : Int32).toInt = 120 := by decide
theorem li_122 : (122 : Int32).toInt = 122 := by decide
theorem li_126 : (126 : Int32).toInt = 126 := by decide
theorem li_270 : (270 : Int32).toInt = 270 := by decide
theorem li_600 : (600 : Int32).toInt = 600 := by decide
theorem li_601 : (601 : Int32).toInt = 601 := by decide
theorem li_1000 : (1000 : Int32).toInt = 1000 := by decide
theorem li_1080 : (1080 : Int32).toInt = 1080 := by decide
theorem li_6300 : (6300 : Int32).toInt = 6300 := by decide
theorem li_100000 : (100000 : Int32).toInt = 100000 := by decide
theorem lo_m1 : (Int32.ofInt (-1)).toInt = -1 := by decide
theorem lo_1 : (Int32.ofInt (1)).toInt = 1 := by decide
theorem ix_0 : (0 : Int32).toNatClampNeg = 0 := by decide
theorem ix_1 : (1 : Int32).toNatClampNeg = 1 := by decide
theorem ix_2 : (2 : Int32).toNatClampNeg = 2 := by decide
theorem ix_3 : (3 : Int32).toNatClampNeg = 3 := by decide
